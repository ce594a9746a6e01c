-- BEST: the calls best and bestAt
theorem C_foundAt {I : e_I} {x c r : Nat} (hx : x < c) (hc : c ≤ 9) (h : I 21 x = nI r) : f_X3_foundAt (nI x) I = some (nI r) := by
  have b : 0 ≤ nI x ∧ nI x ≤ 8 := ⟨nI_le (a := 0) (b := x) (Nat.zero_le x) (by omega), nI_le (a := x) (b := 8) (by omega) (by decide)⟩
  unfold f_X3_foundAt f_X3_foundAt_20
  rw [r_within, if_pos b, r_b1, if_neg (by decide)]
  unfold e_as
  rw [if_pos (nI_ix (by omega) (by omega)), nI_clamp (n := x) (by omega), h]
theorem M_lb {c s d f sl ti K : Nat} {CH : Nat → Nat → Nat} {J : e_I} {M : e_L} (hn : NV c s d f sl ti CH) (h1 : 1 ≤ K) (hK : K ≤ 3) (mv : MV J c s d f sl ti CH) : wp (f_X8_laysBest (nI K) J M) (fun q => fr (m_SF 0) J q.1 ∧ frL mL M q.2 ∧ ∃ v R, leaf K c R ∧ q.2 83 30 = lN v ∧ q.2 83 26 = lN (20 ^ K) ∧ isB (rowsOf s d f c sl ti K CH) (some (v, cod K c R)) ∧ ∀ p, p < c → q.1 94 p = nI (R p)) := by
  have c9 := hn.1.2
  unfold f_X8_laysBest f_X8_fillsRow
  refine wp_let (wp_c2 (M_fill hn h1 hK c 0 11 0 (fun p => p) none (fun _ _ => False) J (e_ul M 83 30 (-1)) (by omega) (by omega) mv ⟨fun p hp => by omega, fun p q hp => by omega, fun p _ hp => by omega⟩ (fun p hp => by omega) (fun x hx => ⟨fun z => absurd (bt_0 x hx) z, fun ⟨p, hp, _⟩ => by omega⟩) (show m_best K c none J (e_ul M 83 30 (-1)) from ul_s) (fun _ _ z => z) (fun _ _ _ _ z => z.elim)) (fun E N hE => wp_some ?_))
  obtain ⟨x1, x2, B, x3, x4⟩ := hE
  have x2 : frL mL (e_ul M 83 30 (-1)) N := x2
  have y4 : isB (rowsOf s d f c sl ti K CH) B := isB_congr (fun v k => ⟨fun z => by
    rcases z with z | ⟨T, _, z⟩
    · exact z.elim
    · exact ⟨T, z⟩, fun ⟨T, z⟩ => Or.inr ⟨T, fun p hp => by omega, z⟩⟩) x4
  refine ⟨x1, frL_tr (frL_ul (Or.inl rfl)) x2, ?_⟩
  cases B with
  | none => exact absurd ⟨_, leaf_id, rfl, rfl⟩ (y4 _ _)
  | some p =>
    obtain ⟨v, k⟩ := p
    obtain ⟨b1, b2, b3, T, b4, b5, b6⟩ := x3
    exact ⟨v, T, b4, b1, b3, b5 ▸ y4, b6⟩
theorem row_same {s d f c sl ti K v v' : Nat} {CH : Nat → Nat → Nat} {R T : Nat → Nat} (c0 : 0 < c) (hc : c ≤ 9) (hK : K ≤ 3) (h : leaf K c R) (h' : leaf K c T) (b : isB (rowsOf s d f c sl ti K CH) (some (v, cod K c R))) (b' : isB (rowsOf s d f c sl ti K CH) (some (v', cod K c T))) : v' = v ∧ ∀ p, p < c → T p = R p := by
  have e := isB_uniq b b'
  injection e with e
  injection e with ev ek
  exact ⟨ev.symm, fun p hp => (leaf_cod c0 hc hK h h' ek p hp).symm⟩
theorem live_cSk {a i : Nat} (l : r_live a i = true) : ¬ cSk a i := fun z => by
  rcases z with z | z | z | z <;> subst z <;> cases (show false = true from l)
theorem live_SF {j a i : Nat} (l : r_live a i = true) : ¬ m_SF j a i := fun z => by
  rcases z with z | z | z
  · exact live_S4 l z
  · obtain ⟨z, _⟩ := z
    subst z
    cases (show false = true from l)
  · subst z
    cases (show false = true from l)
theorem T_best (t : Nat) (ht : t < 600) : ST_best (Rl t) (Rl (t + 1)) := by
  intro k w I L h
  have hx := Rl_hx h
  refine st_2 ?_
  have w8 : ∀ (J : e_I) (N : e_L), J 83 6 = I 83 6 → f_X8_best k w J N = e_b2 (f_X8_isRefused (tD (I 83 6) (if 0 ≤ w ∧ w ≤ 1 then 1 else 0) k 3) J) (fun (r_3 : Int32) (I_4 : e_I) => if r_3 = 0 then (e_b2 (f_X8_laysBest k I_4 N) (fun (I_6 : e_I) (L_7 : e_L) => e_b1 (f_X8_part (L_7 83 30) (L_7 83 26) w) (fun (r_8 : Int64) => some (r_8, I_6, L_7)))) else (some ((-1), I_4, N))) := fun J N hJ => by
    have k22 : ∀ s : Int32, (e_b1 (f_X8_in k 1 3) fun r_1 => e_b1 (f_X8_unless_ s r_1) fun r_2 => some r_2) = some (if s = 0 then 1 else if 1 ≤ k ∧ k ≤ 3 then 0 else 2) := fun s => by
      rw [r_in, r_b1, r_unless_, r_b1]
      by_cases h1 : s = 0
      · rw [if_pos h1, if_pos h1]
      · rw [if_neg h1, if_neg h1]
        by_cases h2 : 1 ≤ k ∧ k ≤ 3
        · rw [if_pos h2, if_neg (by decide), if_pos h2]
        · rw [if_neg h2, if_pos rfl, if_neg h2]
    have k23 : ∀ s v : Int32, (if s = 0 then 1 else if 1 ≤ k ∧ k ≤ 3 then 0 else 2) = v → f_X8_best_22 k w s J N = e_b2 (f_X8_isRefused v J) (fun (r_3 : Int32) (I_4 : e_I) => if r_3 = 0 then (e_b2 (f_X8_laysBest k I_4 N) (fun (I_6 : e_I) (L_7 : e_L) => e_b1 (f_X8_part (L_7 83 30) (L_7 83 26) w) (fun (r_8 : Int64) => some (r_8, I_6, L_7)))) else (some ((-1), I_4, N))) := fun s v e => by
      have k := k22 s
      rw [r_in, r_b1, r_unless_, r_b1, e] at k
      unfold f_X8_best_22
      rw [r_in, r_b1, r_unless_, r_b1, Option.some.inj k]
    unfold f_X8_best f_X8_best_21
    rw [hJ, r_in, r_b1]
    by_cases h1 : I 83 6 = 0
    · rw [if_pos h1, k23 0 1 rfl]
      unfold tD
      rw [if_pos h1]
    · rw [if_neg h1]
      by_cases h2 : 0 ≤ w ∧ w ≤ 1
      · rw [if_pos h2, if_neg (by decide), k23 1 _ rfl]
        unfold tD
        rw [if_neg h1]
      · rw [if_neg h2, if_pos rfl, k23 0 1 rfl]
        unfold tD
        rw [if_neg h1]
        rfl
  unfold f_X7_best
  refine wp_e1 t_part (wp_e1 (t_depth7 hx) ?_)
  by_cases hv : tD (I 83 6) (if 0 ≤ w ∧ w ≤ 1 then 1 else 0) k 3 = 0
  · obtain ⟨hx6, hw, hk1, hk3⟩ := tD_0 hv
    obtain ⟨K, h1, hK, rfl⟩ := nI_btw (m := 1) (n := 3) rfl rfl hk1 hk3
    obtain ⟨c, s, d, f, sl, ti, CH, O, nx, p, fc, st, V⟩ := Rl_VW h hx6 (by omega)
    have V7 := VW_R7 (v := 0) V
    have h115 : r_R7 I 0 11 5 = 0 := h.2.2.2.2.1.1
    have v1 := V.1
    have c9 : c ≤ 9 := v1.1.2
    have b48 := sSc_pow (c := c) (kd := 0) (j := K) v1.1.2 (by omega)
    have e20 : sSc c 0 = 20 := rfl
    rw [e20] at b48
    rw [hv]
    refine wp_e2 (r_refused 0 I) (wp_t rfl ?_)
    refine wp_c2 (C_seek (g := 23) (by decide) v1 h1 hK V7.2.1 V7.2.2.2.2.2.2.2.2 h115 h.2.2.2.2.1.2) (fun J M hJ => ?_)
    obtain ⟨j1, j2, j3, v, R, lR, j4, j5, j6, j7⟩ := hJ
    have j1 : fr cSk (r_R7 I 0) J := j1
    have j2 : c_Z M := j2
    have j3 : c_U M 20 := j3
    have j4 : M 19 3 = lN v := j4
    obtain ⟨x, x7, x8⟩ := r_part (A := v) (B := 20 ^ K) (w := w) j5 (by omega) (Nat.pow_pos (by decide)) (Or.inl rfl)
    refine wp_e1 (C_unit j3 (by omega)) ?_
    rw [j4]
    refine wp_e1 x7 (wp_some ?_)
    have sJ : sameL (r_R7 I 0) J := sameL_fr (fun a i l => live_cSk l) j1
    show wp (f_X8_best (nI K) w J M) _
    rw [w8 J M (sJ 83 6 rfl), hv]
    have V8 := VW_R8 (v := 0) (VW_same sJ V7)
    refine wp_e2 (r_isRefused 0 J) (wp_t rfl ?_)
    refine wp_c2 (M_lb v1 h1 hK V8.2.2.1) (fun J2 M2 h2 => ?_)
    obtain ⟨i1, i2, v', T, lT, i3, i4, i5, i6⟩ := h2
    have i1 : fr (m_SF 0) (r_R8 J 0) J2 := i1
    have i2 : frL mL M M2 := i2
    have i3 : M2 83 30 = lN v' := i3
    have i4 : M2 83 26 = lN (20 ^ K) := i4
    obtain ⟨ev, _⟩ := row_same v1.1.1 c9 hK lR lT j6 i5
    rw [i3, i4, ev]
    refine wp_e1 x8 (wp_some ⟨rfl, ?_⟩)
    refine Rl_fin (v := 0) (by decide) h sJ (sameL_fr (fun a i l => live_SF l) i1) ?_ (c_Z_mL i2 j2)
    exact (i1 11 5 (fun z => by rcases z with (z | z | z) | z | z <;> omega)).trans ((j1 11 5 (fun z => by rcases z with z | z | z | z <;> omega)).trans h115)
  · refine wp_e2 (r_refused _ I) ?_
    rw [r_b_n hv]
    refine wp_f (by decide) (wp_some ?_)
    show wp (f_X8_best k w (r_R7 I _) L) _
    rw [w8 (r_R7 I _) L rfl]
    refine wp_e2 (r_isRefused _ _) ?_
    rw [r_b_n hv]
    exact wp_f (by decide) (wp_some ⟨rfl, Rl_mono (Nat.le_succ t) (Rl_R tD_4 h)⟩)
theorem T_bestAt (t : Nat) (ht : t < 600) : ST_bestAt (Rl t) (Rl (t + 1)) := by
  intro k i I L h
  have hx := Rl_hx h
  obtain ⟨m1, m2, m3⟩ := r_many h.2.2.1
  refine st_2 ?_
  have w8 : ∀ (J : e_I) (N : e_L), (∀ q, J 85 q = I 85 q) → f_X8_bestAt k i J N = e_b2 (f_X8_isRefused (tD (I 83 6) (if 0 ≤ i ∧ i < I 85 0 then 1 else 0) k 3) J) (fun (r_4 : Int32) (I_5 : e_I) => if r_4 = 0 then (e_b2 (f_X8_laysBest k I_5 N) (fun (I_7 : e_I) (L_8 : e_L) => e_as (e_ix i 9 = true) (some ((I_7 94 i.toNatClampNeg), I_7, L_8)))) else (some ((-1), I_5, N))) := fun J N hJ => by
    have hb8 : f_X8_isBatter i J = some (if 0 ≤ i ∧ i < I 85 0 then 1 else 0) := by
      have e := r_isBatter (I := J) (v := i) (by rw [hJ]; exact m2) (by rw [hJ]; exact m3)
      rwa [hJ] at e
    unfold f_X8_bestAt
    rw [hb8, r_b1, r_in, r_b1, r_unless_, r_b1]
    have val : (if (if 0 ≤ i ∧ i < I 85 0 then (1 : Int32) else 0) = 0 then 1 else if (if 1 ≤ k ∧ k ≤ 3 then (1 : Int32) else 0) = 0 then 2 else 0) = tD (I 83 6) (if 0 ≤ i ∧ i < I 85 0 then 1 else 0) k 3 := by
      unfold tD
      by_cases h1 : 0 ≤ i ∧ i < I 85 0
      · have tx := Rl_tx h h1
        rw [if_pos h1, if_neg (show ¬ (1 : Int32) = 0 by decide), if_neg tx]
        by_cases h2 : 1 ≤ k ∧ k ≤ 3
        · rw [if_pos h2, if_neg (show ¬ (1 : Int32) = 0 by decide), if_pos h2]
          rfl
        · rw [if_neg h2, if_pos rfl, if_neg h2]
          rfl
      · rw [if_neg h1, if_pos rfl]
        by_cases h2 : I 83 6 = 0
        · rw [if_pos h2]
        · rw [if_neg h2]
          rfl
    rw [val]
  unfold f_X7_bestAt
  rw [r_hasPlace, m1]
  refine wp_e1 rfl (wp_e1 (t_depth7 hx) ?_)
  by_cases hv : tD (I 83 6) (if 0 ≤ i ∧ i < I 85 0 then 1 else 0) k 3 = 0
  · obtain ⟨hx6, hw, hk1, hk3⟩ := tD_0 hv
    obtain ⟨K, h1, hK, rfl⟩ := nI_btw (m := 1) (n := 3) rfl rfl hk1 hk3
    obtain ⟨c, s, d, f, sl, ti, CH, O, nx, p, fc, st, V⟩ := Rl_VW h hx6 (by omega)
    have V7 := VW_R7 (v := 0) V
    have h115 : r_R7 I 0 11 5 = 0 := h.2.2.2.2.1.1
    have v1 := V.1
    have c9 : c ≤ 9 := v1.1.2
    have hi : 0 ≤ i ∧ i < I 85 0 := by
      by_cases z : 0 ≤ i ∧ i < I 85 0
      · exact z
      · exact absurd (if_neg z) hw
    have e0 : I 85 0 = nI c := V.2.2.1.1
    obtain ⟨x, hx2, rfl⟩ := nI_of (Int32.not_lt.mpr hi.1)
    have hxc : x < c := (nI_ltI hx2 (by omega)).mp (e0 ▸ hi.2)
    rw [hv]
    refine wp_e2 (r_refused 0 I) (wp_t rfl ?_)
    refine wp_c2 (C_seek (g := 23) (by decide) v1 h1 hK V7.2.1 V7.2.2.2.2.2.2.2.2 h115 h.2.2.2.2.1.2) (fun J M hJ => ?_)
    obtain ⟨j1, j2, j3, v, R, lR, j4, j5, j6, j7⟩ := hJ
    have j1 : fr cSk (r_R7 I 0) J := j1
    have j2 : c_Z M := j2
    have j7 : ∀ p, p < c → J 21 p = nI (R p) := j7
    refine wp_e1 (C_foundAt hxc c9 (j7 x hxc)) (wp_some ?_)
    have sJ : sameL (r_R7 I 0) J := sameL_fr (fun a i l => live_cSk l) j1
    show wp (f_X8_bestAt (nI K) (nI x) J M) _
    rw [w8 J M (fun q => sJ 85 q rfl), hv]
    have V8 := VW_R8 (v := 0) (VW_same sJ V7)
    refine wp_e2 (r_isRefused 0 J) (wp_t rfl ?_)
    refine wp_c2 (M_lb v1 h1 hK V8.2.2.1) (fun J2 M2 h2 => ?_)
    obtain ⟨i1, i2, v', T, lT, i3, i4, i5, i6⟩ := h2
    have i1 : fr (m_SF 0) (r_R8 J 0) J2 := i1
    have i2 : frL mL M M2 := i2
    have i6 : ∀ p, p < c → J2 94 p = nI (T p) := i6
    obtain ⟨_, er⟩ := row_same v1.1.1 c9 hK lR lT j6 i5
    refine wp_as (nI_ix (by omega) (by omega)) (wp_some ⟨?_, ?_⟩)
    · show J2 94 (nI x).toNatClampNeg = nI (R x)
      rw [nI_clamp (n := x) (by omega), i6 x hxc, er x hxc]
    · refine Rl_fin (v := 0) (by decide) h sJ (sameL_fr (fun a i l => live_SF l) i1) ?_ (c_Z_mL i2 j2)
      exact (i1 11 5 (fun z => by rcases z with (z | z | z) | z | z <;> omega)).trans ((j1 11 5 (fun z => by rcases z with z | z | z | z <;> omega)).trans h115)
  · refine wp_e2 (r_refused _ I) ?_
    rw [r_b_n hv]
    refine wp_f (by decide) (wp_some ?_)
    show wp (f_X8_bestAt k i (r_R7 I _) L) _
    rw [w8 (r_R7 I _) L (fun q => rfl)]
    refine wp_e2 (r_isRefused _ _) ?_
    rw [r_b_n hv]
    exact wp_f (by decide) (wp_some ⟨rfl, Rl_mono (Nat.le_succ t) (Rl_R tD_4 h)⟩)
-- LAY
def lcn (O R : Nat → Nat) : Nat → Nat → Nat → Nat
  | 0, _, q => q
  | m + 1, i, q => lcn O R m (i + 1) (if O i = R i then q else q + 1)
theorem C_bat {I : e_I} {g i r : Nat} (hi : i < 9) (h : I (g + 3) i = nI r) : f_X0_batterAt g (nI i) I = some (nI r) := by
  unfold f_X0_batterAt f_X0_batterAt_20 e_as
  rw [if_neg (nI_pos (by omega)), if_neg (show ¬ nI i ≥ 9 from c_ge (N := 9) (by omega) (by decide)), if_pos (nI_ix (by omega) (by omega)), nI_clamp (by omega), h]
theorem C_l47 {c : Nat} {O R : Nat → Nat} (hc : c ≤ 9) (hO : ∀ p, p < c → O p < c) (hR : ∀ p, p < c → R p < c) {k102 : Int32 → e_I → e_L → Option (Int32 × e_I × e_L)} {Q : Int32 × e_I × e_L → Prop} : ∀ m i n q I L, i + m = c → m < n → I 23 0 = nI c → (∀ p, i ≤ p → p < c → I 26 p = nI (O p)) → (∀ p, p < c → I 21 p = nI (R p)) → (∀ J, fr (fun a x => a = 26 ∧ i ≤ x ∧ x < c) I J → (∀ p, i ≤ p → p < c → J 26 p = nI (R p)) → wp (k102 (nI (lcn O R m i q)) J L) Q) → wp (f_X7_lay_47 k102 n (nI q) (nI i) I L) Q := by
  intro m
  induction m with
  | zero =>
    intro i n q I L h0 hm h23 h26 h21 kk
    obtain ⟨n', rfl⟩ : ∃ k, n = k + 1 := ⟨n - 1, by omega⟩
    have h0 : i = c := h0
    subst h0
    rw [f_X7_lay_47, h23]
    exact wp_t (nI_le (Nat.le_refl i) (by omega)) (kk I fr_rfl (fun p h1 h2 => by omega))
  | succ m ih =>
    intro i n q I L h0 hm h23 h26 h21 kk
    obtain ⟨n', rfl⟩ : ∃ k, n = k + 1 := ⟨n - 1, by omega⟩
    have hi : i < c := by omega
    have fa := C_foundAt hi hc (h21 i hi)
    have o9 := hO i hi
    have r9 := hR i hi
    have go : ∀ q', lcn O R m (i + 1) q' = lcn O R (m + 1) i q → wp (f_X7_lay_80 (fun v2 v3 I L => f_X7_lay_47 k102 n' v2 v3 I L) k102 (nI q') (nI i) I L) Q := fun q' e => by
      unfold f_X7_lay_80
      refine wp_e1 fa (wp_e1 (C_putAt (by omega)) (wp_let ?_))
      rw [nI_1 i]
      refine ih (i + 1) n' q' (e_ui I 26 i (nI (R i))) L (by omega) (by omega) ((ui_a (by decide)).trans h23) (fun p h1 h2 => (ui_i (by omega)).trans (h26 p (by omega) h2)) (fun p hp => (ui_a (by decide)).trans (h21 p hp)) (fun J f1 f2 => ?_)
      rw [e]
      refine kk J (fun a x z => ?_) (fun p h1 h2 => ?_)
      · rw [f1 a x (fun y => z ⟨y.1, by omega, y.2.2⟩)]
        by_cases y : a = 26
        · subst y
          exact ui_i (fun w => z ⟨rfl, by omega, by omega⟩)
        · exact ui_a y
      · by_cases y : p = i
        · subst y
          rw [f1 26 p (fun w => by omega)]
          exact ui_s
        · exact f2 p (by omega) h2
    rw [f_X7_lay_47, h23]
    refine wp_f (c_ge hi (by omega)) (wp_e1 (C_bat (by omega) (h26 i (Nat.le_refl i) hi)) (wp_e1 fa (wp_c (fun z => ?_) (fun z => ?_))))
    · refine go q ?_
      have e : O i = R i := (nI_eq (by omega) (by omega)).mp z
      show _ = lcn O R m (i + 1) (if O i = R i then q else q + 1)
      rw [if_pos e]
    · refine wp_let ?_
      rw [nI_1 q]
      refine go (q + 1) ?_
      have e : ¬ O i = R i := fun w => z (by rw [w])
      show _ = lcn O R m (i + 1) (if O i = R i then q else q + 1)
      rw [if_neg e]
theorem M_l35 {c : Nat} {O R : Nat → Nat} (hc : c ≤ 9) (hO : ∀ p, p < c → O p < c) (hR : ∀ p, p < c → R p < c) {k92 : Int32 → e_I → e_L → Option (Int32 × e_I × e_L)} {Q : Int32 × e_I × e_L → Prop} : ∀ m i n q I L, i + m = c → m < n → I 85 0 = nI c → (∀ p, i ≤ p → p < c → I 85 (60 + p) = nI (O p)) → (∀ p, p < c → I 94 p = nI (R p)) → (∀ J, fr (fun a x => a = 85 ∧ 60 + i ≤ x ∧ x < 60 + c) I J → (∀ p, i ≤ p → p < c → J 85 (60 + p) = nI (R p)) → wp (k92 (nI (lcn O R m i q)) J L) Q) → wp (f_X8_lay_35 k92 n (nI q) (nI i) I L) Q := by
  have t0 : (0 : Int32).toNatClampNeg = 0 := rfl
  intro m
  induction m with
  | zero =>
    intro i n q I L h0 hm h23 h26 h21 kk
    obtain ⟨n', rfl⟩ : ∃ k, n = k + 1 := ⟨n - 1, by omega⟩
    have h0 : i = c := h0
    subst h0
    rw [f_X8_lay_35, t0, h23]
    exact wp_t (nI_le (Nat.le_refl i) (by omega)) (kk I fr_rfl (fun p h1 h2 => by omega))
  | succ m ih =>
    intro i n q I L h0 hm h23 h26 h21 kk
    obtain ⟨n', rfl⟩ : ∃ k, n = k + 1 := ⟨n - 1, by omega⟩
    have hi : i < c := by omega
    have o9 := hO i hi
    have r9 := hR i hi
    have s60 : (60 : Int32) + nI i = nI (60 + i) := by rw [n60, nI_add]
    have ix : e_ix (nI (60 + i)) 396 = true := nI_ix (by omega) (by omega)
    have ix9 : e_ix (nI i) 9 = true := nI_ix (by omega) (by omega)
    have c60 : (nI (60 + i)).toNatClampNeg = 60 + i := nI_clamp (by omega)
    have ci : (nI i).toNatClampNeg = i := nI_clamp (by omega)
    have go : ∀ q', lcn O R m (i + 1) q' = lcn O R (m + 1) i q → ∀ s0 : Int32, nI q + s0 = nI q' → wp (f_X8_lay_69 (fun v2 v3 I L => f_X8_lay_35 k92 n' v2 v3 I L) k92 (nI i) s0 (nI q) I L) Q := fun q' e s0 es => by
      unfold f_X8_lay_69
      rw [es, s60]
      refine wp_let (wp_as ix9 (wp_as ix (wp_let (wp_let ?_))))
      rw [nI_1 i, c60, ci, h21 i hi]
      refine ih (i + 1) n' q' (e_ui I 85 (60 + i) (nI (R i))) L (by omega) (by omega) ((ui_i (by omega)).trans h23) (fun p h1 h2 => (ui_i (by omega)).trans (h26 p (by omega) h2)) (fun p hp => (ui_a (by decide)).trans (h21 p hp)) (fun J f1 f2 => ?_)
      rw [e]
      refine kk J (fun a x z => ?_) (fun p h1 h2 => ?_)
      · rw [f1 a x (fun y => z ⟨y.1, by omega, y.2.2⟩)]
        by_cases y : a = 85
        · subst y
          exact ui_i (fun w => z ⟨rfl, by omega, by omega⟩)
        · exact ui_a y
      · by_cases y : p = i
        · subst y
          rw [f1 85 (60 + p) (fun w => by omega)]
          exact ui_s
        · exact f2 p (by omega) h2
    rw [f_X8_lay_35, t0, h23, s60, c60, ci, h26 i (Nat.le_refl i) hi, h21 i hi]
    refine wp_f (c_ge hi (by omega)) (wp_as ix (wp_as ix9 (wp_c (fun z => ?_) (fun z => ?_))))
    · refine go q ?_ 0 (Int32.add_zero _)
      have e : O i = R i := (nI_eq (by omega) (by omega)).mp z
      show _ = lcn O R m (i + 1) (if O i = R i then q else q + 1)
      rw [if_pos e]
    · refine go (q + 1) ?_ 1 (nI_1 q)
      have e : ¬ O i = R i := fun w => z (by rw [w])
      show _ = lcn O R m (i + 1) (if O i = R i then q else q + 1)
      rw [if_neg e]
theorem lcn_congr {O R T : Nat → Nat} {c : Nat} (h : ∀ p, p < c → T p = R p) : ∀ m i q, i + m = c → lcn O T m i q = lcn O R m i q
  | 0, _, _, _ => rfl
  | m + 1, i, q, hm => by
    show lcn O T m (i + 1) (if O i = T i then q else q + 1) = lcn O R m (i + 1) (if O i = R i then q else q + 1)
    rw [h i (by omega)]
    exact lcn_congr h m (i + 1) _ (by omega)
theorem T_lay (t : Nat) (ht : t < 600) : ST_lay (Rl t) (Rl (t + 1)) := by
  intro k I L h
  have hx := Rl_hx h
  have val : (if I 83 6 = 0 then 1 else if (if 1 ≤ k ∧ k ≤ 3 then (1 : Int32) else 0) = 0 then 2 else 0) = tD (I 83 6) 1 k 3 := by
    unfold tD
    by_cases h1 : I 83 6 = 0
    · rw [if_pos h1, if_pos h1]
    · rw [if_neg h1, if_neg h1, if_neg (show ¬ (1 : Int32) = 0 by decide)]
      by_cases h2 : 1 ≤ k ∧ k ≤ 3
      · rw [if_pos h2, if_neg (by decide), if_pos h2]
      · rw [if_neg h2, if_pos rfl, if_neg h2]
  refine st_2 ?_
  unfold f_X7_lay
  refine wp_e1 (t_depth7 hx) ?_
  by_cases hv : tD (I 83 6) 1 k 3 = 0
  · obtain ⟨hx0, _, hk1, hk3⟩ := tD_0 hv
    obtain ⟨K, h1, hK, rfl⟩ := nI_btw (m := 1) (n := 3) rfl rfl hk1 hk3
    obtain ⟨c, s, d, f, sl, ti, CH, O, b, fc, st, n, w, gN, gC, gM, g2, gT, gf⟩ := Rl_nums h hx0 ht
    obtain ⟨T, C, p1, hT10, p2, hC, p33⟩ := past_TC h.2.2.2.1
    have c9 := gN.1.1.2
    rw [hv]
    refine wp_e2 (r_refused 0 I) (wp_t rfl ?_)
    refine wp_c1 (C_keep (I := r_R7 I 0) p1 hT10 p2 hC) (fun A hA => ?_)
    obtain ⟨kg, ko⟩ := kp_game hT10 hA.1
    have gCA : GC A 23 c s d f sl ti CH O b fc st n w := GC_same kg gC
    have gTA : c_T A s d f := c_T_fr (fun i => ko 13 i (by omega)) (fun i => ko 14 i (by omega)) gT
    have a11 : A 11 5 = 0 := (ko 11 5 (by omega)).trans h.2.2.2.2.1.1
    refine wp_c2 (C_seek (g := 23) (by decide) gN.1 h1 hK gCA.1 gTA a11 h.2.2.2.2.1.2) (fun J M hJ => ?_)
    obtain ⟨j1, j2, j3, v, R, lR, j4, j5, j6, j7⟩ := hJ
    have j1 : fr cSk A J := j1
    have j2 : c_Z M := j2
    have j7 : ∀ p, p < c → J 21 p = nI (R p) := j7
    have jA : ∀ a i, a ≠ 17 → a ≠ 19 → a ≠ 20 → a ≠ 21 → J a i = A a i := fun a i x1 x2 x3 x4 => j1 a i (fun z => by rcases z with z | z | z | z <;> omega)
    refine C_l47 (O := O) (R := R) c9 gN.2.1 lR.1 c 0 e_FU 0 J M (by omega) (wp_FU (by omega)) ((jA 23 0 (by decide) (by decide) (by decide) (by decide)).trans gCA.1.1) (fun p _ hp => (jA 26 p (by decide) (by decide) (by decide) (by decide)).trans (gCA.1.2.2.2 p hp).1) j7 (fun I1 f1 f2 => wp_some ?_)
    have i1 : ∀ a i, a ≠ 17 → a ≠ 19 → a ≠ 20 → a ≠ 21 → a ≠ 26 → I1 a i = A a i := fun a i x1 x2 x3 x4 x5 => (f1 a i (fun z => x5 z.1)).trans (jA a i x1 x2 x3 x4)
    have j85 : ∀ i, I1 85 i = I 85 i := fun i => (i1 85 i (by decide) (by decide) (by decide) (by decide) (by decide)).trans (ko 85 i (by omega))
    have j83 : ∀ i, I1 83 i = I 83 i := fun i => (i1 83 i (by decide) (by decide) (by decide) (by decide) (by decide)).trans (ko 83 i (by omega))
    have mv8 : MV (r_R8 I1 0) c s d f sl ti CH := MV_85 (fun i => j85 i) gM.1
    show wp (f_X8_lay (nI K) I1 M) _
    unfold f_X8_lay
    refine wp_e1 (r_in _ _ _) (wp_e1 (r_unless_ _ _) ?_)
    rw [j83 6, val, hv]
    refine wp_e2 (r_isRefused 0 I1) (wp_t rfl ?_)
    refine wp_c2 (M_lb gN.1 h1 hK mv8) (fun J1 M1 h2 => ?_)
    obtain ⟨q1, q2, v', Y, lY, q3, q4, q5, q6⟩ := h2
    have q1 : fr (m_SF 0) (r_R8 I1 0) J1 := q1
    have q2 : frL mL M M1 := q2
    have q6 : ∀ p, p < c → J1 94 p = nI (Y p) := q6
    obtain ⟨_, er⟩ := row_same gN.1.1.1 c9 hK lR lY j6 q5
    have s1 : ∀ a i, r_live a i = true → J1 a i = r_R8 I1 0 a i := fun a i l => q1 a i (live_SF l)
    have r33 : r_R8 I1 0 83 33 = nI C := ((j83 33).trans p33 : I1 83 33 = nI C)
    refine wp_c1 (M_rem (I := J1) hC ((s1 83 33 rfl).trans r33)) (fun B hB => ?_)
    obtain ⟨b1, b2, b3, b4⟩ := hB
    have b85 : ∀ i, B 85 i = I 85 i := fun i => (b1 85 i (fun z => by rcases z with z | z <;> omega)).trans ((s1 85 i rfl).trans (j85 i))
    have b94 : ∀ p, p < c → B 94 p = nI (Y p) := fun p hp => (b1 94 p (fun z => by rcases z with z | z <;> omega)).trans (q6 p hp)
    have hBe : fr rmF (r_R8 I1 0) (fun a i => if r_live a i = true then B a i else r_R8 I1 0 a i) ∧ (fun a i => if r_live a i = true then B a i else r_R8 I1 0 a i) 83 33 = nI (min (C + 1) 10) ∧ (∀ k, k < 396 → (fun a i => if r_live a i = true then B a i else r_R8 I1 0 a i) 96 (396 * min C 9 + k) = r_R8 I1 0 85 k) ∧ (∀ r, r < min C 9 → ∀ k, k < 396 → (fun a i => if r_live a i = true then B a i else r_R8 I1 0 a i) 96 (396 * r + k) = r_R8 I1 0 96 (396 * (r + (if C = 10 then 1 else 0)) + k)) := by
      refine ⟨fun a i z => ?_, b2, fun k hk => (b3 k hk).trans (s1 85 k rfl), fun r hr k hk => (b4 r hr k hk).trans (s1 96 _ rfl)⟩
      show (if r_live a i = true then B a i else r_R8 I1 0 a i) = r_R8 I1 0 a i
      by_cases l : r_live a i = true
      · rw [if_pos l, b1 a i z]
        exact s1 a i l
      · rw [if_neg l]
    refine M_l35 (O := O) (R := Y) c9 gN.2.1 lY.1 c 0 e_FU 0 B M1 (by omega) (wp_FU (by omega)) ((b85 0).trans gM.1.1) (fun p _ hp => (b85 _).trans (gM.2.1 p hp)) b94 (fun I2 f3 f4 => wp_some ⟨?_, ?_⟩)
    · show nI (lcn O Y c 0 0) = nI (lcn O R c 0 0)
      rw [lcn_congr er c 0 0 (by omega)]
    · have o : ∀ i, i < 60 ∨ 69 ≤ i → I2 85 i = I 85 i := fun i hi => (f3 85 i (fun z => by omega)).trans (b85 i)
      have gN' : GN c s d f sl ti CH R b st n w := ⟨gN.1, lR.1, lR.2.1, gN.2.2.2⟩
      have cl : ∀ a i, 23 ≤ a → a ≤ 27 → a ≠ 26 → I1 a i = A a i := fun a i x y z => i1 a i (by omega) (by omega) (by omega) (by omega) z
      obtain ⟨⟨v0, v2, v3, _⟩, y4, y5, y2, y6, y7⟩ := gCA
      have gC' : GC I1 23 c s d f sl ti CH R b fc st n w := ⟨⟨(cl 23 0 (by decide) (by decide) (by decide)).trans v0, ⟨(cl 25 0 (by decide) (by decide) (by decide)).trans v2.1, (cl 25 1 (by decide) (by decide) (by decide)).trans v2.2.1, (cl 25 2 (by decide) (by decide) (by decide)).trans v2.2.2.1, (cl 25 3 (by decide) (by decide) (by decide)).trans v2.2.2.2.1, (cl 25 4 (by decide) (by decide) (by decide)).trans v2.2.2.2.2⟩, fun x hx e he => (cl 24 _ (by decide) (by decide) (by decide)).trans (v3 x hx e he), fun p hp => ⟨f2 p (Nat.zero_le p) hp, lR.1 p hp⟩⟩, (cl 23 4 (by decide) (by decide) (by decide)).trans y4, (cl 23 5 (by decide) (by decide) (by decide)).trans y5, (cl 23 2 (by decide) (by decide) (by decide)).trans y2, (cl 23 6 (by decide) (by decide) (by decide)).trans y6, (cl 23 7 (by decide) (by decide) (by decide)).trans y7⟩
      obtain ⟨mv, mo, m72, m73, m70, m71, m75⟩ := gM
      have gM' : GM I2 c s d f sl ti CH R b fc st n := ⟨⟨(o 0 (by omega)).trans mv.1, ⟨(o 1 (by omega)).trans mv.2.1.1, (o 2 (by omega)).trans mv.2.1.2.1, (o 3 (by omega)).trans mv.2.1.2.2⟩, (o 4 (by omega)).trans mv.2.2.1, (o 5 (by omega)).trans mv.2.2.2.1, fun x hx e he => (o _ (by omega)).trans (mv.2.2.2.2 x hx e he)⟩, fun p hp => by rw [f4 p (Nat.zero_le p) hp, er p hp], (o 72 (by omega)).trans m72, (o 73 (by omega)).trans m73, (o 70 (by omega)).trans m70, (o 71 (by omega)).trans m71, (o 75 (by omega)).trans m75⟩
      have k23 : ∀ i, I1 23 i = I 23 i := fun i => (cl 23 i (by decide) (by decide) (by decide)).trans (kg 23 i (by decide) (by decide))
      have k27 : ∀ i, I1 27 i = I 27 i := fun i => (cl 27 i (by decide) (by decide) (by decide)).trans (kg 27 i (by decide) (by decide))
      have g2' : G2 I1 I2 23 n w := by
        obtain ⟨z1, z3, zl⟩ := g2
        refine ⟨?_, ?_, fun j hj => r_note_congr (fun i hi => k27 _) (fun i hi => o _ (by omega)) (zl j hj)⟩
        · rw [k23 1, o 69 (by omega)]
          exact z1
        · rw [k23 3, o 74 (by omega)]
          exact z3
      have gT' : c_T I1 s d f := c_T_fr (fun i => i1 13 i (by decide) (by decide) (by decide) (by decide) (by decide)) (fun i => i1 14 i (by decide) (by decide) (by decide) (by decide) (by decide)) gTA
      refine Rl_act2 h hx0 ht p1 hT10 p2 hC hA (fun a i l z _ _ => ?_) hBe (fun a i l z => ?_) gN' gC' gM' g2' gT' (by omega) (o 0 (by omega)) ?_ (c_Z_mL q2 j2)
      · refine i1 a i (fun y => ?_) (fun y => ?_) (fun y => ?_) (fun y => ?_) (by omega) <;> (subst y; cases (show false = true from l))
      · show I2 a i = (if r_live a i = true then B a i else r_R8 I1 0 a i)
        rw [if_pos l]
        exact f3 a i (fun y => z y.1)
      · show I2 11 5 = 0
        have e1 : I2 11 5 = B 11 5 := f3 11 5 (fun z => by cases z.1)
        have e2 : B 11 5 = J1 11 5 := b1 11 5 (fun z => by rcases z with z | z <;> omega)
        have e3 : J1 11 5 = I1 11 5 := q1 11 5 (fun z => by rcases z with (z | z | z) | z | z <;> omega)
        rw [e1, e2, e3, i1 11 5 (by decide) (by decide) (by decide) (by decide) (by decide)]
        exact a11
  · refine wp_e2 (r_refused _ I) ?_
    rw [r_b_n hv]
    refine wp_f (by decide) (wp_some ?_)
    have e8 : f_X8_lay k (r_R7 I (tD (I 83 6) 1 k 3)) L = some (-1, r_R8 (r_R7 I (tD (I 83 6) 1 k 3)) (tD (I 83 6) 1 k 3), L) := by
      have j6 : r_R7 I (tD (I 83 6) 1 k 3) 83 6 = I 83 6 := rfl
      unfold f_X8_lay
      rw [r_in, r_b1, r_unless_, r_b1, j6, val, r_isRefused, r_b2, r_b_n hv, if_neg (by decide)]
    exact wp_eq e8 ⟨rfl, Rl_mono (Nat.le_succ t) (Rl_R tD_4 h)⟩
