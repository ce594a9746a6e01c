-- INNINGS
theorem mx_le (a b : Int32) : e_max a b = if b ≤ a then a else b := by
  unfold e_max
  by_cases q : a < b
  · rw [if_pos q, if_neg (Int32.not_le.mpr q)]
  · rw [if_neg q, if_pos (Int32.not_lt.mp q)]
theorem TR_le {g B B' : Nat} {I : e_I} {L : e_L} {J : e_I} {M : e_L} (hl : B ≤ B') (h : TR g B I L J M) : TR g B' I L J M := by
  obtain ⟨c, s, d, f, sl, ti, CH, O, b, fc, st, n, w, x, h, hf⟩ := h
  exact ⟨c, s, d, f, sl, ti, CH, O, b, fc, st, n, w, x, h, Nat.le_trans hf hl⟩
theorem TR_1 {g B : Nat} {I : e_I} {L : e_L} {J : e_I} {M : e_L} (h : TR g B I L J M) : I g 1 = J 85 69 ∧ I g 3 = J 85 74 := by
  obtain ⟨c, s, d, f, sl, ti, CH, O, b, fc, st, n, w, x, h, hf⟩ := h
  exact ⟨h.2.2.2.1.1, h.2.2.2.1.2.1⟩
theorem i152 {v2 v3 v4 v5 v7 v8 s0 y : Int32} {K : Int32 → Int32 → Int32 → e_I → e_L → Option (Int32 × e_I × e_L)} {k : Int32 → Int32 → e_I → e_L → Option (Int32 × e_I × e_L)} {J : e_I} {M : e_L} (h : J 85 69 = y) : f_X8_innings_152 v2 v3 v4 K k v5 v7 v8 s0 J M = K v5 s0 (if y = v8 then v7 else 0) J M := by
  have t69 : (69 : Int32).toNatClampNeg = 69 := rfl
  unfold f_X8_innings_152 f_X8_innings_172
  rw [t69, h]
  by_cases q : y = v8
  · rw [if_neg (fun n => n q), if_pos q]
  · rw [if_pos q, if_neg q]
theorem S_inns {a2 a3 a4 : Int32} : ∀ m i v6 v7 n1 n2 B I L J M, i + m = 100 → m < n1 → m < n2 → B + m ≤ 100000 → TR 28 B I L J M → ∃ v5' v6' I' L' J' M', (∀ k, f_X7_innings_63 a2 a3 a4 k n1 (nI i) v6 v7 I L = k v5' v6' I' L') ∧ (∀ k, f_X8_innings_98 a2 a3 a4 k n2 (nI i) v6 v7 J M = k v5' v6' J' M') ∧ TR 28 (B + m) I' L' J' M' ∧ fr (cF 28) I I' ∧ fr mF J J' ∧ frL mL M M' := by
  have t69 : (69 : Int32).toNatClampNeg = 69 := rfl
  intro m
  induction m with
  | zero =>
    intro i v6 v7 n1 n2 B I L J M h0 h1 h2 hB h
    obtain ⟨k1, rfl⟩ : ∃ k, n1 = k + 1 := ⟨n1 - 1, by omega⟩
    obtain ⟨k2, rfl⟩ : ∃ k, n2 = k + 1 := ⟨n2 - 1, by omega⟩
    have h0 : i = 100 := h0
    subst h0
    refine ⟨nI 100, v6, I, L, J, M, fun k => ?_, fun k => ?_, h, fr_rfl, fr_rfl, frL_rfl⟩
    · unfold f_X7_innings_63
      rw [if_pos (by decide)]
    · unfold f_X8_innings_98
      by_cases q : J 85 (69 : Int32).toNatClampNeg > a2
      · rw [if_pos q]
      · rw [if_neg q, if_pos (by decide)]
  | succ m ih =>
    intro i v6 v7 n1 n2 B I L J M h0 h1 h2 hB h
    obtain ⟨k1, rfl⟩ : ∃ k, n1 = k + 1 := ⟨n1 - 1, by omega⟩
    obtain ⟨k2, rfl⟩ : ∃ k, n2 = k + 1 := ⟨n2 - 1, by omega⟩
    have lt : ¬ nI i ≥ 100 := c_ge (N := 100) (by omega) (by decide)
    have e1 := (TR_1 h).1
    by_cases q : I 28 1 > a2
    · refine ⟨nI i, v6, I, L, J, M, fun k => ?_, fun k => ?_, TR_le (Nat.le_add_right _ _) h, fr_rfl, fr_rfl, frL_rfl⟩
      · unfold f_X7_innings_63
        rw [if_neg lt, if_pos q]
      · unfold f_X8_innings_98
        rw [t69, ← e1, if_pos q]
    · obtain ⟨r, I', L', J', M', e7, e8, tr, f1, f2, f3⟩ := S_turn a3 (by decide) (by omega) h
      have e2 := (TR_1 tr).1
      obtain ⟨v5', v6', I2, L2, J2, M2, c1, c2, c3, c4, c5, c6⟩ := ih (i + 1) (e_max v6 (v7 + r)) (if I' 28 1 = I 28 1 then v7 + r else 0) k1 k2 (B + 1) I' L' J' M' (by omega) (by omega) (by omega) (by omega) tr
      refine ⟨v5', v6', I2, L2, J2, M2, fun k => ?_, fun k => ?_, ?_, fr_tr f1 c4, fr_tr f2 c5, frL_tr f3 c6⟩
      · unfold f_X7_innings_63
        rw [if_neg lt, if_neg q, let_eq, e7, r_b3, let_eq, let_eq, let_eq, nI_1 i]
        have c1 := c1 k
        by_cases y : I' 28 1 = I 28 1
        · rw [if_pos y] at c1 ⊢
          exact c1
        · rw [if_neg y] at c1 ⊢
          exact c1
      · unfold f_X8_innings_98
        rw [t69, ← e1, if_neg q, if_neg lt, let_eq, e8, r_b3, let_eq, let_eq, nI_1 i]
        have c2 := c2 k
        rw [mx_le] at c2
        by_cases y : v7 + r ≤ v6
        · rw [if_pos y] at c2 ⊢
          rw [i152 e2.symm]
          exact c2
        · rw [if_neg y] at c2 ⊢
          rw [i152 e2.symm]
          exact c2
      · rw [show B + (m + 1) = B + 1 + m by omega]
        exact c3
def iS (a1 a2 : Int32) : Int32 := if 1 ≤ a1 ∧ a1 ≤ 2147483646 then (if 1 ≤ a2 ∧ a2 ≤ 9 then 1 else 0) else 0
def iW (tx a4 : Int32) : Int32 := if tx = 0 then 0 else if 0 ≤ a4 ∧ a4 ≤ 2 then 1 else 0
theorem i_all {a1 a2 a3 a4 : Int32} {J : e_I} {M : e_L} : f_X8_innings a1 a2 a3 a4 J M = f_X8_innings_49 a1 a2 a3 a4 (iS a1 a2) (iW (J 83 6) a4) J M := by
  have e23 : ∀ s1, f_X8_innings_23 a1 a2 a3 a4 s1 J M = f_X8_innings_49 a1 a2 a3 a4 (iS a1 a2) s1 J M := fun s1 => by
    unfold f_X8_innings_23 f_X8_innings_48 iS
    rw [r_in, r_b1]
    by_cases h1 : 1 ≤ a1 ∧ a1 ≤ 2147483646
    · rw [if_pos h1, if_neg (by decide), r_in, r_b1, if_pos h1]
      by_cases h2 : 1 ≤ a2 ∧ a2 ≤ 9
      · rw [if_pos h2, if_neg (by decide)]
      · rw [if_neg h2, if_pos rfl]
    · rw [if_neg h1, if_pos rfl, if_neg h1]
  unfold f_X8_innings f_X8_innings_22 iW
  by_cases h1 : J 83 6 = 0
  · rw [if_pos h1, if_pos h1, e23]
  · rw [if_neg h1, if_neg h1, r_in, r_b1]
    by_cases h2 : 0 ≤ a4 ∧ a4 ≤ 2
    · rw [if_pos h2, if_neg (by decide), e23]
    · rw [if_neg h2, if_pos rfl, e23]
theorem i_val {tx a1 a2 a4 : Int32} : (if iW tx a4 = 0 then 1 else if iS a1 a2 = 0 then 2 else 0 : Int32) = tQ tx (if 0 ≤ a4 ∧ a4 ≤ 2 then 1 else 0) a1 (if 1 ≤ a2 ∧ a2 ≤ 9 then 1 else 0) := by
  unfold iW iS tQ
  by_cases h1 : tx = 0
  · rw [if_pos h1, if_pos h1, if_pos rfl]
  · rw [if_neg h1, if_neg h1]
    by_cases h2 : 0 ≤ a4 ∧ a4 ≤ 2
    · rw [if_pos h2]
      by_cases h3 : 1 ≤ a1 ∧ a1 ≤ 2147483646
      · rw [if_pos h3, if_pos h3]
        first
          | done
          | rfl
      · rw [if_neg h3, if_neg h3]
        first
          | done
          | rfl
    · rw [if_neg h2]
      rfl
theorem c_Z_fr {L M : e_L} (h15 : ∀ i, M 15 i = L 15 i) (h18 : ∀ i, M 18 i = L 18 i) (h : c_Z L) : c_Z M := ⟨fun q hq => (h15 q).trans (h.1 q hq), fun j hj => (h15 _).trans (h.2.1 j hj), (h18 24).trans h.2.2⟩
theorem T_innings (t : Nat) (ht : t < 600) : ST_innings (Rl t) (Rl (t + 1)) := by
  intro a1 a2 a3 a4 _ I L h
  have hx := Rl_hx h
  refine st_2 ?_
  unfold f_X7_innings
  refine wp_e1 (r_within _ _ _) (wp_e1 (r_within _ _ _) (wp_e1 (t_play7 hx) ?_))
  by_cases hv : tQ (I 83 6) (if 0 ≤ a4 ∧ a4 ≤ 2 then 1 else 0) a1 (if 1 ≤ a2 ∧ a2 ≤ 9 then 1 else 0) = 0
  · obtain ⟨hx0, _, ha1, _⟩ := tQ_0 hv
    obtain ⟨x, hx1, hx2, rfl⟩ := nI_btw (m := 1) (n := 2147483646) rfl rfl ha1.1 ha1.2
    obtain ⟨c, s, d, f, sl, ti, CH, O, b, fc, st, n, w, gN, gC, gM, g2, gT, gf⟩ := Rl_nums h hx0 ht
    have c0 := gN.1.1.1
    have c9 := gN.1.1.2
    have gN' : GN c s d f sl ti CH O (O 0) 0 0 0 := ⟨gN.1, gN.2.1, gN.2.2.1, gN.2.1 0 c0, by decide, by decide, by decide⟩
    obtain ⟨v, k4, k5, k2, k6, k7⟩ := gC
    obtain ⟨mv, mo, m72, m73, m70, m71, m75⟩ := gM
    have xl : (nI x).toInt64 = lN x := nI_l (by omega)
    rw [hv]
    refine wp_e2 (r_refused 0 I) (wp_t rfl ?_)
    refine wp_c1 (C_copy (g := 28) (g1 := 23) (I := r_R7 I 0) (Or.inr (by decide))) (fun A1 hA1 => ?_)
    obtain ⟨o1, p0, p1, p2, p3, p4⟩ := hA1
    refine wp_c1 (C_beginAnew (g := 28)) (fun A hA => ?_)
    obtain ⟨d0, e0, e1, e2, e3, e4, e5, e6, e7⟩ := hA
    have sd : f_X5_seedWith (nI x) L = some (e_ul L 22 0 (lN x)) := by
      unfold f_X5_seedWith
      rw [xl]
      rfl
    refine wp_e1 sd ?_
    have z7 : ∀ a i, a ≠ 0 → r_R7 I 0 a i = I a i := fun a i z => by
      unfold r_R7
      rw [ui_a z]
    have oA : ∀ a i, a ≠ 28 → a ≠ 29 → a ≠ 30 → a ≠ 31 → a ≠ 32 → A a i = r_R7 I 0 a i := fun a i x1 x2 x3 x4 x5 => (d0 a i x1).trans (o1 a i (by omega))
    have cA : GC A 28 c s d f sl ti CH O (O 0) 0 0 0 0 := by
      refine ⟨⟨e0.trans ((p0 0 (by decide)).trans ((z7 23 0 (by decide)).trans v.1)), ?_, fun y1 h1 y2 h2 => ?_, fun y1 h1 => ⟨?_, (v.2.2.2 y1 h1).2⟩⟩, ?_, e5, e2, e6, e7⟩
      · refine ⟨?_, ?_, ?_, ?_, ?_⟩
        · exact (d0 30 0 (by decide)).trans ((p2 0 (by decide)).trans ((z7 25 0 (by decide)).trans v.2.1.1))
        · exact (d0 30 1 (by decide)).trans ((p2 1 (by decide)).trans ((z7 25 1 (by decide)).trans v.2.1.2.1))
        · exact (d0 30 2 (by decide)).trans ((p2 2 (by decide)).trans ((z7 25 2 (by decide)).trans v.2.1.2.2.1))
        · exact (d0 30 3 (by decide)).trans ((p2 3 (by decide)).trans ((z7 25 3 (by decide)).trans v.2.1.2.2.2.1))
        · exact (d0 30 4 (by decide)).trans ((p2 4 (by decide)).trans ((z7 25 4 (by decide)).trans v.2.1.2.2.2.2))
      · exact (d0 29 _ (by decide)).trans ((p1 _ (by omega)).trans ((z7 24 _ (by decide)).trans (v.2.2.1 y1 h1 y2 h2)))
      · exact (d0 31 _ (by decide)).trans ((p3 _ (by omega)).trans ((z7 26 _ (by decide)).trans (v.2.2.2 y1 h1).1))
      · exact e4.trans ((p3 0 (by decide)).trans ((z7 26 0 (by decide)).trans (v.2.2.2 0 c0).1))
    have tA : c_T A s d f := c_T_fr (fun i => (oA 13 i (by decide) (by decide) (by decide) (by decide) (by decide)).trans (z7 13 i (by decide))) (fun i => (oA 14 i (by decide) (by decide) (by decide) (by decide) (by decide)).trans (z7 14 i (by decide))) gT
    have zA : A 11 5 = 0 := (oA 11 5 (by decide) (by decide) (by decide) (by decide) (by decide)).trans h.2.2.2.2.1.1
    have l85 : e_ln 85 = 396 := rfl
    have l95 : e_ln 95 = 396 := rfl
    have go : ∀ J M, (∀ i, J 85 i = I 85 i) → ∃ Ja Jb, f_X8_lays 95 85 0 0 396 J = some Ja ∧ f_X8_begins 85 Ja = some Jb ∧ (fr (fun a i => a = 95 ∧ 0 ≤ i ∧ i < 0 + 396) J Ja ∧ ∀ k, k < 396 → Ja 95 (0 + k) = J 85 (0 + k)) ∧ ((∀ a i, a ≠ 85 → Jb a i = Ja a i) ∧ (∀ i, i < 69 ∨ 76 ≤ i → Jb 85 i = Ja 85 i)) ∧ ∃ v5' v6' I' L' J' M', (∀ k, f_X7_innings_63 a2 a3 a4 k e_FU 0 0 0 A (e_ul L 22 0 (lN x)) = k v5' v6' I' L') ∧ (∀ k, f_X8_innings_98 a2 a3 a4 k e_FU 0 0 0 Jb (e_ul M 83 31 (lN x)) = k v5' v6' J' M') ∧ TR 28 (0 + 100) I' L' J' M' ∧ fr (cF 28) A I' ∧ fr mF Jb J' ∧ frL mL (e_ul M 83 31 (lN x)) M' := fun J M e => by
      obtain ⟨Ja, ea, j1, j2⟩ := M_lays (I := J) (a0 := 95) (a2 := 85) (x := 0) (y := 0) (n := 396) (by decide) (by rw [l95]; decide) (by rw [l85]; decide) (by decide) (by decide)
      have a85 : ∀ i, Ja 85 i = I 85 i := fun i => (j1 85 i (fun z => by omega)).trans (e i)
      obtain ⟨Jb, eb, f0, f1, f69, f70, f71, f72, f73, f74, f75⟩ := M_begins (I := Ja)
      refine ⟨Ja, Jb, ea, eb, ⟨j1, j2⟩, ⟨f0, f1⟩, ?_⟩
      have f1 : ∀ i, i < 69 ∨ 76 ≤ i → Jb 85 i = I 85 i := fun i hi => (f1 i hi).trans (a85 i)
      have gMb : GM Jb c s d f sl ti CH O (O 0) 0 0 0 := ⟨⟨(f1 0 (by decide)).trans mv.1, ⟨(f1 1 (by decide)).trans mv.2.1.1, (f1 2 (by decide)).trans mv.2.1.2.1, (f1 3 (by decide)).trans mv.2.1.2.2⟩, (f1 4 (by decide)).trans mv.2.2.1, (f1 5 (by decide)).trans mv.2.2.2.1, fun x1 hx1 x2 hx2 => (f1 _ (by omega)).trans (mv.2.2.2.2 x1 hx1 x2 hx2)⟩, fun i hi => (f1 _ (by omega)).trans (mo i hi), f72.trans ((a85 60).trans (mo 0 c0)), f73, f70, f71, f75⟩
      have tr : TR 28 0 A (e_ul L 22 0 (lN x)) Jb (e_ul M 83 31 (lN x)) := ⟨c, s, d, f, sl, ti, CH, O, O 0, 0, 0, 0, 0, x, ⟨gN', cA, gMb, ⟨e1.trans f69.symm, e3.trans f74.symm, fun j hj => by omega⟩, tA, zA, c_Z_22 h.2.2.2.2.1.2, ul_s, ul_s, by omega⟩, Nat.le_refl 0⟩
      exact S_inns (a2 := a2) (a3 := a3) (a4 := a4) 100 0 0 0 e_FU e_FU 0 A (e_ul L 22 0 (lN x)) Jb (e_ul M 83 31 (lN x)) (by omega) (wp_FU (by omega)) (wp_FU (by omega)) (by omega) tr
    obtain ⟨_, _, _, _, _, _, v5', v6', I1, L1, _, _, q7, _, ⟨c', s', d', f', sl', ti', CH', O', b', fc', st', n', w', x', t1, tf⟩, f7, _, _⟩ := go I L (fun _ => rfl)
    have res7 : ∀ (y : Int32), y = (if a4 ≠ 0 then (if a4 ≠ 1 then v6' else v5') else I1 28 3) → (if a4 ≠ 0 then (if a4 ≠ 1 then f_X7_innings_169 v6' I1 L1 else f_X7_innings_169 v5' I1 L1) else f_X7_innings_169 (I1 28 3) I1 L1) = some (y, I1, L1) := fun y hy => by
      rw [hy]
      unfold f_X7_innings_169
      by_cases y1 : a4 ≠ 0
      · rw [if_pos y1, if_pos y1]
        by_cases y2 : a4 ≠ 1
        · rw [if_pos y2, if_pos y2]
        · rw [if_neg y2, if_neg y2]
      · rw [if_neg y1, if_neg y1]
    rw [q7]
    refine wp_eq (res7 _ rfl) ?_
    have iA : ∀ a i, a ≠ 28 → a ≠ 32 → a ≠ 17 → a ≠ 11 → I1 a i = A a i := fun a i x1 x2 x3 x4 => f7 a i (fun z => by rcases z with z | z | z | z <;> omega)
    have iI : ∀ a i, a ≠ 28 → a ≠ 29 → a ≠ 30 → a ≠ 31 → a ≠ 32 → a ≠ 17 → a ≠ 11 → I1 a i = r_R7 I 0 a i := fun a i x1 x2 x3 x4 x5 x6 x7 => (iA a i x1 x5 x6 x7).trans (oA a i x1 x2 x3 x4 x5)
    have j85 : ∀ i, I1 85 i = I 85 i := fun i => iI 85 i (by decide) (by decide) (by decide) (by decide) (by decide) (by decide) (by decide)
    have j83 : ∀ i, I1 83 i = I 83 i := fun i => iI 83 i (by decide) (by decide) (by decide) (by decide) (by decide) (by decide) (by decide)
    show wp (f_X8_innings (nI x) a2 a3 a4 I1 L1) _
    rw [i_all]
    unfold f_X8_innings_49
    refine wp_e1 (r_unless_ _ _) ?_
    rw [j83 6, i_val, hv]
    refine wp_e2 (r_isRefused 0 I1) (wp_t rfl ?_)
    obtain ⟨Ja, Jb, ea, eb, ⟨j1, j2⟩, ⟨f0, f1⟩, v5'', v6'', I1', L1', J2, M2, q7', q8', tr2, _, f8', fl'⟩ := go (r_R8 I1 0) L1 (fun i => (show r_R8 I1 0 85 i = I1 85 i from rfl).trans (j85 i))
    have ea5 := (q7 (fun a _ I L => some (a, I, L))).symm.trans (q7' (fun a _ I L => some (a, I, L)))
    have ea6 := (q7 (fun _ b I L => some (b, I, L))).symm.trans (q7' (fun _ b I L => some (b, I, L)))
    injection ea5 with y5
    injection y5 with y5 yi
    injection yi with yi yl
    injection ea6 with y6
    injection y6 with y6 _
    subst y5
    subst y6
    subst yi
    subst yl
    obtain ⟨_, _, _, _, _, z11, zZ, _, _, _⟩ := t1
    refine wp_e1 ea (wp_e1 eb ?_)
    rw [xl]
    refine wp_let ?_
    rw [q8']
    refine wp_let ?_
    obtain ⟨K, ek, g1, g2'⟩ := M_lays (I := J2) (a0 := 85) (a2 := 95) (x := 0) (y := 0) (n := 396) (by decide) (by rw [l85]; decide) (by rw [l95]; decide) (by decide) (by decide)
    refine wp_e1 ek ?_
    have e74 : J2 85 (74 : Int32).toNatClampNeg = I1 28 3 := (TR_1 tr2).2.symm
    rw [e74]
    have res8 : ∀ (y : Int32), y = (if a4 ≠ 0 then (if a4 ≠ 1 then v6' else v5') else I1 28 3) → (if a4 ≠ 0 then (if a4 ≠ 1 then f_X8_innings_225 v6' K M2 else f_X8_innings_225 v5' K M2) else f_X8_innings_225 (I1 28 3) K M2) = some (y, K, M2) := fun y hy => by
      rw [hy]
      unfold f_X8_innings_225
      by_cases y1 : a4 ≠ 0
      · rw [if_pos y1, if_pos y1]
        by_cases y2 : a4 ≠ 1
        · rw [if_pos y2, if_pos y2]
        · rw [if_neg y2, if_neg y2]
      · rw [if_neg y1, if_neg y1]
    refine wp_eq (res8 _ rfl) ⟨rfl, ?_⟩
    show Rl (t + 1) K M2
    have nl : ∀ a i, r_live a i = true → a ≠ 28 ∧ a ≠ 29 ∧ a ≠ 30 ∧ a ≠ 31 ∧ a ≠ 32 ∧ a ≠ 17 ∧ a ≠ 11 ∧ a ≠ 95 := fun a i l => by
      refine ⟨?_, ?_, ?_, ?_, ?_, ?_, ?_, ?_⟩ <;> (intro z; subst z; cases (show false = true from l))
    refine Rl_fin (v := 0) (I1 := I1) (by decide) h (fun a i l => ?_) (fun a i l => ?_) ?_ (c_Z_mL fl' (c_Z_83 zZ))
    · obtain ⟨x1, x2, x3, x4, x5, x6, x7, _⟩ := nl a i l
      exact iI a i x1 x2 x3 x4 x5 x6 x7
    · obtain ⟨_, _, _, _, _, _, _, x8⟩ := nl a i l
      by_cases y : a = 85
      · subst y
        by_cases y2 : i < 396
        · have s1 := g2' i y2
          have s2 := j2 i y2
          rw [Nat.zero_add] at s1 s2
          rw [s1, f8' 95 i (fun z => by rcases z with z | z | z | z <;> omega), f0 95 i (by decide), s2]
        · rw [g1 85 i (fun z => by omega), f8' 85 i (fun z => by rcases z with z | z | z | z <;> omega), f1 i (by omega), j1 85 i (fun z => by omega)]
      · rw [g1 a i (fun z => y z.1), f8' a i (live_mF l y), f0 a i y, j1 a i (fun z => x8 z.1)]
    · rw [g1 11 5 (fun z => by omega), f8' 11 5 (fun z => by rcases z with z | z | z | z <;> omega), f0 11 5 (by decide), j1 11 5 (fun z => by omega)]
      exact z11
  · refine wp_e2 (r_refused _ I) ?_
    rw [r_b_n hv]
    refine wp_f (by decide) (wp_some ?_)
    have e8 : f_X8_innings a1 a2 a3 a4 (r_R7 I (tQ (I 83 6) (if 0 ≤ a4 ∧ a4 ≤ 2 then 1 else 0) a1 (if 1 ≤ a2 ∧ a2 ≤ 9 then 1 else 0))) L = some (-1, r_R8 (r_R7 I (tQ (I 83 6) (if 0 ≤ a4 ∧ a4 ≤ 2 then 1 else 0) a1 (if 1 ≤ a2 ∧ a2 ≤ 9 then 1 else 0))) (tQ (I 83 6) (if 0 ≤ a4 ∧ a4 ≤ 2 then 1 else 0) a1 (if 1 ≤ a2 ∧ a2 ≤ 9 then 1 else 0)), L) := by
      have j6 : r_R7 I (tQ (I 83 6) (if 0 ≤ a4 ∧ a4 ≤ 2 then 1 else 0) a1 (if 1 ≤ a2 ∧ a2 ≤ 9 then 1 else 0)) 83 6 = I 83 6 := rfl
      rw [i_all, j6]
      unfold f_X8_innings_49
      rw [r_unless_, r_b1, i_val, r_isRefused, r_b2, r_b_n hv, if_neg (by decide)]
    exact wp_eq e8 ⟨rfl, Rl_mono (Nat.le_succ t) (Rl_R tQ_4 h)⟩
