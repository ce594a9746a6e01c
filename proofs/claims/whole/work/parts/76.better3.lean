-- BETTER: the loop and the call
def TB (c s d f sl ti : Nat) (CH : Nat → Nat → Nat) (b fc st n w : Nat) (O : Nat → Nat) (I : e_I) (L : e_L) (J : e_I) : Prop := GN c s d f sl ti CH O b st n w ∧ GC I 23 c s d f sl ti CH O b fc st n w ∧ GM J c s d f sl ti CH O b fc st n ∧ G2 I J 23 n w ∧ c_T I s d f ∧ I 11 5 = 0 ∧ c_Z L
def cB (a _i : Nat) : Prop := a = 26 ∨ a = 17
theorem GN_oB {c s d f sl ti b st n w : Nat} {CH : Nat → Nat → Nat} {O : Nat → Nat} {p : Option (Nat × Nat)} (gN : GN c s d f sl ti CH O b st n w) (h : ∀ q, p = some q → q.1 < q.2 ∧ q.2 < c) : GN c s d f sl ti CH (oB O p) b st n w := by
  cases p with
  | none => exact gN
  | some q =>
    obtain ⟨q1, q2⟩ := h q rfl
    have q3 : q.1 < c := by omega
    exact ⟨gN.1, fun k hk => gN.2.1 _ (tau_lt q3 q2 hk), fun k l hk hl e => tau_inj (gN.2.2.1 _ _ (tau_lt q3 q2 hk) (tau_lt q3 q2 hl) e), gN.2.2.2⟩
theorem S_bet {c s d f sl ti b fc st n w K : Nat} {CH : Nat → Nat → Nat} {O : Nat → Nat} {I : e_I} {L : e_L} {J : e_I} {M : e_L} (h1 : 1 ≤ K) (hk : K ≤ 5) (h : TB c s d f sl ti CH b fc st n w O I L J) : ∃ p I' L' J' M', f_X3_improve 23 (nI K) I L = some (rB p, I', L') ∧ f_X8_betters (nI K) J M = some (rB p, J', M') ∧ TB c s d f sl ti CH b fc st n w (oB O p) I' L' J' ∧ fr cB I I' ∧ fr bF J J' ∧ frL mL M M' := by
  obtain ⟨gN, gC, gM, g2, gT, z11, zZ⟩ := h
  have v1 := gN.1
  have hO := gN.2.1
  have hw : ∀ x y, x < c → y < c → (fun x y => LV s d f c sl ti 0 K 0 0 CH (swO O x y) K 0) x y = LV s d f c sl ti 0 K 0 0 CH (swO O x y) K 0 ∧ (fun x y => LV s d f c sl ti 0 K 0 0 CH (swO O x y) K 0) x y < 2 ^ 62 := fun x y hx hy => by
    refine ⟨rfl, ?_⟩
    show LV s d f c sl ti 0 K 0 0 CH (swO O x y) K 0 < 2 ^ 62
    have or : ∀ i, i < c → swO O x y i < c := fun i hi => hO _ (tau_lt hx hy hi)
    have lw := LV_lt (k := K) (fi := 0) (fc := 0) (ti := ti) (kd := 0) v1.2.1 v1.2.2.1 v1.1.1 v1.1.2 v1.2.2.2.2 or hk 0
    omega
  have hw0 : LV s d f c sl ti 0 K 0 0 CH O K 0 = LV s d f c sl ti 0 K 0 0 CH O K 0 ∧ LV s d f c sl ti 0 K 0 0 CH O K 0 < 2 ^ 62 := by
    refine ⟨rfl, ?_⟩
    have lw := LV_lt (k := K) (fi := 0) (fc := 0) (ti := ti) (kd := 0) v1.2.1 v1.2.2.1 v1.1.1 v1.1.2 v1.2.2.2.2 hO hk 0
    omega
  have P : bW c 0 (bO (fun x y => LV s d f c sl ti 0 K 0 0 CH (swO O x y) K 0) c (min c K) 0 (LV s d f c sl ti 0 K 0 0 CH O K 0, none)) := bO_P (c := c) (bW c 0) (fun i j s hij hj hs => bW_S (hw i j (by omega) hj).2 hij hj hs) _ _ _ (by omega) ⟨Nat.zero_le _, hw0.2, fun q e => by cases e⟩
  have bs := b_same hw hw0
  obtain ⟨⟨r, I', L'⟩, a1, a2, a3, a4⟩ := C_imp (g := 23) (L := L) (by decide) v1 hw hw0 h1 hk ⟨gC.1, gT, z11, zZ⟩
  obtain ⟨⟨r2, J', M'⟩, b1, b2, b3, b4, b5⟩ := M_imp (I := J) (L := M) v1 hO hw hw0 hk ⟨gM.1, gM.2.1⟩
  rw [bs] at b2 b3
  have a2 : r = _ := a2
  have b2 : r2 = _ := b2
  subst a2
  subst b2
  have a4 : fr cB I I' := a4
  have b4 : fr bF J J' := b4
  have iI : ∀ a i, a ≠ 26 → a ≠ 17 → I' a i = I a i := fun a i x y => a4 a i (fun z => by rcases z with z | z <;> omega)
  have jJ : ∀ i, 69 ≤ i → J' 85 i = J 85 i := fun i hi => b4 85 i (fun z => by rcases z with ((z | z | z) | z) | z <;> omega)
  refine ⟨_, I', L', J', M', a1, b1, ⟨GN_oB gN P.2.2, ⟨a3.1, (iI 23 4 (by decide) (by decide)).trans gC.2.1, (iI 23 5 (by decide) (by decide)).trans gC.2.2.1, (iI 23 2 (by decide) (by decide)).trans gC.2.2.2.1, (iI 23 6 (by decide) (by decide)).trans gC.2.2.2.2.1, (iI 23 7 (by decide) (by decide)).trans gC.2.2.2.2.2⟩, ⟨b3.1, b3.2, (jJ 72 (by decide)).trans gM.2.2.1, (jJ 73 (by decide)).trans gM.2.2.2.1, (jJ 70 (by decide)).trans gM.2.2.2.2.1, (jJ 71 (by decide)).trans gM.2.2.2.2.2.1, (jJ 75 (by decide)).trans gM.2.2.2.2.2.2⟩, ?_, a3.2.1, a3.2.2.1, a3.2.2.2⟩, a4, b4, b5⟩
  obtain ⟨y1, y3, yl⟩ := g2
  refine ⟨?_, ?_, fun j hj => ?_⟩
  · rw [iI 23 1 (by decide) (by decide), jJ 69 (by decide)]
    exact y1
  · rw [iI 23 3 (by decide) (by decide), jJ 74 (by decide)]
    exact y3
  · exact r_note_congr (fun i hi => iI 27 _ (by decide) (by decide)) (fun i hi => jJ _ (by omega)) (yl j hj)
theorem S_bets {c s d f sl ti b fc st n w K : Nat} {CH : Nat → Nat → Nat} (h1 : 1 ≤ K) (hk : K ≤ 5) : ∀ m i n1 n2 O I L J M, i + m = 60 → m < n1 → m < n2 → TB c s d f sl ti CH b fc st n w O I L J → ∃ v I' L' J' M' O', f_X7_better_29 (nI K) (fun (v2_6 : Int32) (I_7 : e_I) (L_8 : e_L) => some (v2_6, I_7, L_8)) n1 (nI i) I L = some (v, I', L') ∧ f_X8_better_28 (nI K) (fun (v2_7 : Int32) (I_8 : e_I) (L_9 : e_L) => some (v2_7, I_8, L_9)) n2 (nI i) J M = some (v, J', M') ∧ TB c s d f sl ti CH b fc st n w O' I' L' J' ∧ fr cB I I' ∧ fr bF J J' ∧ frL mL M M' := by
  intro m
  induction m with
  | zero =>
    intro i n1 n2 O I L J M h0 hm1 hm2 h
    obtain ⟨k1, rfl⟩ : ∃ k, n1 = k + 1 := ⟨n1 - 1, by omega⟩
    obtain ⟨k2, rfl⟩ : ∃ k, n2 = k + 1 := ⟨n2 - 1, by omega⟩
    have h0 : i = 60 := h0
    subst h0
    unfold f_X7_better_29 f_X8_better_28
    rw [if_pos (by decide), if_pos (by decide)]
    exact ⟨nI 60, I, L, J, M, O, rfl, rfl, h, fr_rfl, fr_rfl, frL_rfl⟩
  | succ m ih =>
    intro i n1 n2 O I L J M h0 hm1 hm2 h
    obtain ⟨k1, rfl⟩ : ∃ k, n1 = k + 1 := ⟨n1 - 1, by omega⟩
    obtain ⟨k2, rfl⟩ : ∃ k, n2 = k + 1 := ⟨n2 - 1, by omega⟩
    have lt : ¬ nI i ≥ 60 := c_ge (N := 60) (by omega) (by decide)
    obtain ⟨p, I', L', J', M', a1, a2, a3, a4, a5, a6⟩ := S_bet (M := M) h1 hk h
    unfold f_X7_better_29 f_X8_better_28
    rw [if_neg lt, if_neg lt, a1, r_b3, a2, r_b3]
    cases p with
    | none =>
      rw [if_pos (show rB none = 0 from rfl), if_pos (show rB none = 0 from rfl)]
      exact ⟨nI i, I', L', J', M', _, rfl, rfl, a3, a4, a5, a6⟩
    | some q =>
      rw [if_neg (show ¬ rB (some q) = 0 from (by decide : ¬ (1 : Int32) = 0)), if_neg (show ¬ rB (some q) = 0 from (by decide : ¬ (1 : Int32) = 0)), let_eq, let_eq, nI_1 i]
      obtain ⟨v, I2, L2, J2, M2, O2, x1, x2, x3, x4, x5, x6⟩ := ih (i + 1) k1 k2 _ I' L' J' M' (by omega) (by omega) (by omega) a3
      exact ⟨v, I2, L2, J2, M2, O2, x1, x2, x3, fr_tr a4 x4, fr_tr a5 x5, frL_tr a6 x6⟩
theorem live_bF {a i : Nat} (l : r_live a i = true) (h : a ≠ 85) : ¬ bF a i := fun z => by
  rcases z with (z | z) | z
  · exact live_S4 l z
  · subst z
    cases (show false = true from l)
  · exact h z.1
theorem T_better (t : Nat) (ht : t < 600) : ST_better (Rl t) (Rl (t + 1)) := by
  intro k I L h
  have hx := Rl_hx h
  have val : (if I 83 6 = 0 then 1 else if (if 1 ≤ k ∧ k ≤ 5 then (1 : Int32) else 0) = 0 then 2 else 0) = tD (I 83 6) 1 k 5 := by
    unfold tD
    by_cases h1 : I 83 6 = 0
    · rw [if_pos h1, if_pos h1]
    · rw [if_neg h1, if_neg h1, if_neg (show ¬ (1 : Int32) = 0 by decide)]
      by_cases h2 : 1 ≤ k ∧ k ≤ 5
      · rw [if_pos h2, if_neg (by decide), if_pos h2]
      · rw [if_neg h2, if_pos rfl, if_neg h2]
  refine st_2 ?_
  unfold f_X7_better
  refine wp_e1 (t_depth7 hx) ?_
  by_cases hv : tD (I 83 6) 1 k 5 = 0
  · obtain ⟨hx0, _, hk1, hk5⟩ := tD_0 hv
    obtain ⟨K, h1, hk, rfl⟩ := nI_btw (m := 1) (n := 5) rfl rfl hk1 hk5
    obtain ⟨c, s, d, f, sl, ti, CH, O, b, fc, st, n, w, gN, gC, gM, g2, gT, gf⟩ := Rl_nums h hx0 ht
    obtain ⟨T, C, p1, hT10, p2, hC, p33⟩ := past_TC h.2.2.2.1
    rw [hv]
    refine wp_e2 (r_refused 0 I) (wp_t rfl ?_)
    refine wp_c1 (C_keep (I := r_R7 I 0) p1 hT10 p2 hC) (fun A hA => ?_)
    obtain ⟨kg, ko⟩ := kp_game hT10 hA.1
    have gCA : GC A 23 c s d f sl ti CH O b fc st n w := GC_same kg gC
    have gTA : c_T A s d f := c_T_fr (fun i => ko 13 i (by omega)) (fun i => ko 14 i (by omega)) gT
    have tb : ∀ J, (∀ i, J 85 i = I 85 i) → TB c s d f sl ti CH b fc st n w O A L J := fun J e => ⟨gN, gCA, GM_same e gM, G2_same (fun i => kg 23 i (by decide) (by decide)) (fun i => kg 27 i (by decide) (by decide)) e g2, gTA, (ko 11 5 (by omega)).trans h.2.2.2.2.1.1, h.2.2.2.2.1.2⟩
    have go := fun J M e => S_bets (c := c) (s := s) (d := d) (f := f) (sl := sl) (ti := ti) (CH := CH) (b := b) (fc := fc) (st := st) (n := n) (w := w) (K := K) h1 hk 60 0 e_FU e_FU O A L J M (by omega) (wp_FU (by omega)) (wp_FU (by omega)) (tb J e)
    obtain ⟨r, I1, L1, _, _, O1, e7, _, t1, f7, _, _⟩ := go I L (fun _ => rfl)
    refine wp_eq e7 ?_
    have i1 : ∀ a i, a ≠ 26 → a ≠ 17 → I1 a i = A a i := fun a i x y => f7 a i (fun z => by rcases z with z | z <;> omega)
    have j85 : ∀ i, I1 85 i = I 85 i := fun i => (i1 85 i (by decide) (by decide)).trans (ko 85 i (by omega))
    have j83 : ∀ i, I1 83 i = I 83 i := fun i => (i1 83 i (by decide) (by decide)).trans (ko 83 i (by omega))
    show wp (f_X8_better (nI K) I1 L1) _
    unfold f_X8_better
    refine wp_e1 (r_in _ _ _) (wp_e1 (r_unless_ _ _) ?_)
    rw [j83 6, val, hv]
    refine wp_e2 (r_isRefused 0 I1) (wp_t rfl ?_)
    refine wp_c1 (M_rem (I := r_R8 I1 0) hC ((j83 33).trans p33)) (fun B hB => ?_)
    have b85 : ∀ i, B 85 i = I 85 i := fun i => (hB.1 85 i (fun z => by rcases z with z | z <;> omega)).trans (j85 i)
    obtain ⟨r2, I2, L2, J2, M2, O2, e7', e8', t2, _, f8', fl'⟩ := go B L1 b85
    have ee := e7.symm.trans e7'
    injection ee with ee
    injection ee with er ee
    injection ee with ei el
    subst er
    subst ei
    subst el
    obtain ⟨u1, u2, u3, u4, u5, u6, u7⟩ := t2
    refine wp_eq e8' ⟨rfl, ?_⟩
    refine Rl_act2 h hx0 ht p1 hT10 p2 hC hA (fun a i l z _ _ => ?_) hB (fun a i l z => f8' a i (live_bF l z)) u1 u2 u3 u4 u5 (by omega) ?_ ?_ (c_Z_mL fl' u7)
    · refine i1 a i (by omega) (fun y => ?_)
      subst y
      cases (show false = true from l)
    · exact (f8' 85 0 (fun z => by rcases z with ((z | z | z) | z) | z <;> omega)).trans (b85 0)
    · have e1 : J2 11 5 = B 11 5 := f8' 11 5 (fun z => by rcases z with ((z | z | z) | z) | z <;> omega)
      have e2 : B 11 5 = I1 11 5 := hB.1 11 5 (fun z => by rcases z with z | z <;> omega)
      show J2 11 5 = 0
      rw [e1, e2, u6]
  · refine wp_e2 (r_refused _ I) ?_
    rw [r_b_n hv]
    refine wp_f (by decide) (wp_some ?_)
    have e8 : f_X8_better k (r_R7 I (tD (I 83 6) 1 k 5)) L = some (-1, r_R8 (r_R7 I (tD (I 83 6) 1 k 5)) (tD (I 83 6) 1 k 5), L) := by
      have j6 : r_R7 I (tD (I 83 6) 1 k 5) 83 6 = I 83 6 := rfl
      unfold f_X8_better
      rw [r_in, r_b1, r_unless_, r_b1, j6, val, r_isRefused, r_b2, r_b_n hv, if_neg (by decide)]
    exact wp_eq e8 ⟨rfl, Rl_mono (Nat.le_succ t) (Rl_R tD_4 h)⟩
