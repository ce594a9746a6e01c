-- EXCHANGED: is the worth greater when two change places
theorem tau_tau {i j k : Nat} : tau i j (tau i j k) = k := by
  unfold tau
  by_cases a : k = j
  · subst a
    rw [if_pos rfl]
    by_cases b : i = k
    · subst b
      rw [if_pos rfl]
    · rw [if_neg b, if_pos rfl]
  · rw [if_neg a]
    by_cases b : k = i
    · subst b
      rw [if_pos rfl, if_pos rfl]
    · rw [if_neg b, if_neg a, if_neg b]
theorem lN_dcmp {A B : Nat} (hA : A < 2 ^ 62) (hB : B < 2 ^ 62) : (lg_cmp (lN A - lN B) 0 ≤ 0 ↔ lg_cmp (lN A) (lN B) ≤ 0) ∧ (lg_cmp (lN A - lN B) 0 ≠ 0 ↔ lg_cmp (lN A) (lN B) ≠ 0) := by
  have q1 : lg_cmp (lN A) (lN B) ≤ 0 ↔ A ≤ B := lN_cmp (by omega) (by omega)
  have q2 : lg_cmp (lN A) (lN B) ≠ 0 ↔ A ≠ B := not_congr ((lg_cmp_eq _ _).trans (lN_eq' (by omega) (by omega)))
  rw [q1, q2]
  by_cases h : B ≤ A
  · have e : lN A - lN B = lN (A - B) := lN_sub h
    rw [e, l0]
    refine ⟨(lN_cmp (by omega) (by decide)).trans ⟨fun z => by omega, fun z => by omega⟩, (not_congr ((lg_cmp_eq _ _).trans (lN_eq' (by omega) (by decide)))).trans ⟨fun z => by omega, fun z => by omega⟩⟩
  · have lt : lN A - lN B < 0 := by
      have e : lN A - lN B = -(lN (B - A)) := by
        rw [← lN_sub (show A ≤ B by omega), Int64.neg_sub]
      rw [e, Int64.lt_iff_toInt_lt, Int64.toInt_neg, lN_toInt' (by omega)]
      have z : (0 : Int64).toInt = 0 := by decide
      rw [z, Int.bmod_eq_of_le (by omega) (by omega)]
      omega
    refine ⟨⟨fun _ => by omega, fun _ => (lg_cmp_le _ _).mpr (Int64.le_of_lt lt)⟩, ⟨fun _ => by omega, fun _ z => ?_⟩⟩
    have z2 := (lg_cmp_eq _ _).mp z
    rw [z2] at lt
    exact absurd lt (by decide)
-- the class: the worth with two places changed; the game is as it was
theorem C_wEx {I : e_I} {L : e_L} {g c s d f sl ti k x y : Nat} {CH : Nat → Nat → Nat} {O : Nat → Nat} (hg : 23 ≤ g) (hv : CV I g c s d f sl ti CH O) (hn : NV c s d f sl ti CH) (hT : c_T I s d f) (h11 : I 11 5 = 0) (hz : c_Z L) (h1 : 1 ≤ k) (hk : k ≤ 5) (hx : x < c) (hy : y < c) : wp (f_X3_worthExchanged g (nI x) (nI y) (nI k) I L) (fun q => q.1 = lN (LV s d f c sl ti 0 k 0 0 CH (swO O x y) k 0) ∧ fr c_S17 I q.2.1 ∧ c_Z q.2.2 ∧ c_U q.2.2 20) := by
  have c9 := hn.1.2
  unfold f_X3_worthExchanged
  refine wp_c1 (C_exchange hv c9 hx hy) (fun D hD => ?_)
  obtain ⟨d0, d3⟩ := hD
  have vD := CV_ex hv hx hy d0 d3
  have tD : c_T D s d f := c_T_fr (fun i => d0 13 i (by omega)) (fun i => d0 14 i (by omega)) hT
  refine wp_c3 (C_worth hg vD hn tD ((d0 11 5 (by omega)).trans h11) hz h1 hk) (fun r J M hJ => ?_)
  obtain ⟨j1, j2, j3, j4, j5⟩ := hJ
  have j2 : fr c_S17 D J := j2
  have vJ : CV J g c s d f sl ti CH (swO O x y) := CV_fr (fun i => j2 _ i (fun z => by unfold c_S17 at z; omega)) (fun i => j2 _ i (fun z => by unfold c_S17 at z; omega)) (fun i => j2 _ i (fun z => by unfold c_S17 at z; omega)) (fun i => j2 _ i (fun z => by unfold c_S17 at z; omega)) vD
  refine wp_c1 (C_exchange vJ c9 hx hy) (fun E hE => wp_some ⟨j1, fun a i z => ?_, j4, j5⟩)
  obtain ⟨e0, e3⟩ := hE
  show E a i = I a i
  by_cases q : a = g + 3
  · subst q
    rw [e3, j2 (g + 3) (tau x y i) (fun q => z q), d3, tau_tau]
  · rw [e0 a i q, j2 a i z, d0 a i q]
theorem T_exchanged (t : Nat) (ht : t < 600) : ST_exchanged (Rl t) (Rl (t + 1)) := by
  intro i j k I L h
  have hx := Rl_hx h
  obtain ⟨m1, m2, m3⟩ := r_many h.2.2.1
  have hb8 : ∀ (J : e_I) (v : Int32), (∀ i, J 85 i = I 85 i) → f_X8_isBatter v J = some (if 0 ≤ v ∧ v < I 85 0 then 1 else 0) := fun J v hJ => by
    have e := r_isBatter (I := J) (v := v) (by rw [hJ]; exact m2) (by rw [hJ]; exact m3)
    rwa [hJ] at e
  let W : Int32 := if (0 ≤ i ∧ i < I 85 0) ∧ (0 ≤ j ∧ j < I 85 0) then 1 else 0
  have w7 : f_X7_exchanged i j k I L = f_X7_exchanged_29 i j k W I L := by
    unfold f_X7_exchanged f_X7_exchanged_28
    rw [r_hasPlace, r_hasPlace, m1, r_b1]
    by_cases h1 : 0 ≤ i ∧ i < I 85 0
    · rw [if_pos h1, if_neg (by decide), r_b1]
      by_cases h2 : 0 ≤ j ∧ j < I 85 0
      · rw [if_pos h2, if_neg (by decide), show W = 1 from if_pos ⟨h1, h2⟩]
      · rw [if_neg h2, if_pos rfl, show W = 0 from if_neg (fun n => h2 n.2)]
    · rw [if_neg h1, if_pos rfl, show W = 0 from if_neg (fun n => h1 n.1)]
  have w8 : ∀ J M, (∀ i, J 85 i = I 85 i) → f_X8_exchanged i j k J M = f_X8_exchanged_22 i j k W J M := fun J M hJ => by
    unfold f_X8_exchanged f_X8_exchanged_21
    rw [hb8 J i hJ, hb8 J j hJ, r_b1]
    by_cases h1 : 0 ≤ i ∧ i < I 85 0
    · rw [if_pos h1, if_neg (by decide), r_b1]
      by_cases h2 : 0 ≤ j ∧ j < I 85 0
      · rw [if_pos h2, if_neg (by decide), show W = 1 from if_pos ⟨h1, h2⟩]
      · rw [if_neg h2, if_pos rfl, show W = 0 from if_neg (fun n => h2 n.2)]
    · rw [if_neg h1, if_pos rfl, show W = 0 from if_neg (fun n => h1 n.1)]
  have val : (if W = 0 then 1 else if (if 1 ≤ k ∧ k ≤ 5 then (1 : Int32) else 0) = 0 then 2 else 0) = tD (I 83 6) W k 5 := by
    unfold tD
    by_cases hc : (0 ≤ i ∧ i < I 85 0) ∧ (0 ≤ j ∧ j < I 85 0)
    · rw [show W = 1 from if_pos hc, if_neg (Rl_tx h hc.1), if_neg (by decide)]
      by_cases h1 : 1 ≤ k ∧ k ≤ 5
      · rw [if_pos h1, if_neg (by decide), if_pos h1]
        rfl
      · rw [if_neg h1, if_pos rfl, if_neg h1]
        rfl
    · rw [show W = 0 from if_neg hc, if_pos rfl]
      by_cases h1 : I 83 6 = 0
      · rw [if_pos h1]
      · rw [if_neg h1]
        rfl
  refine st_2 ?_
  rw [w7]
  unfold f_X7_exchanged_29
  refine wp_e1 (t_depth7 hx) ?_
  by_cases hv : tD (I 83 6) W k 5 = 0
  · obtain ⟨hx6, hW, hk1, hk5⟩ := tD_0 hv
    have hc : (0 ≤ i ∧ i < I 85 0) ∧ (0 ≤ j ∧ j < I 85 0) := by
      by_cases q : (0 ≤ i ∧ i < I 85 0) ∧ (0 ≤ j ∧ j < I 85 0)
      · exact q
      · exact absurd (if_neg q) hW
    obtain ⟨K, h1, hk, rfl⟩ := nI_btw (m := 1) (n := 5) rfl rfl hk1 hk5
    obtain ⟨c, s, d, f, sl, ti, CH, O, nx, p, fc, st, V⟩ := Rl_VW h hx6 (by omega)
    have V7 := VW_R7 (v := 0) V
    have h115 : r_R7 I 0 11 5 = 0 := h.2.2.2.2.1.1
    have v1 := V.1
    have c9 : c ≤ 9 := v1.1.2
    have e0 : I 85 0 = nI c := V.2.2.1.1
    rw [e0] at hc
    obtain ⟨x, hx2, rfl⟩ := nI_of (Int32.not_lt.mpr hc.1.1)
    obtain ⟨y, hy2, rfl⟩ := nI_of (Int32.not_lt.mpr hc.2.1)
    have hxc : x < c := (nI_ltI hx2 (by omega)).mp hc.1.2
    have hyc : y < c := (nI_ltI hy2 (by omega)).mp hc.2.2
    have or : ∀ i, i < c → swO O x y i < c := fun i hi => VW_OR V _ (tau_lt hxc hyc hi)
    have lv := LV_lt (k := K) (fi := 0) (fc := 0) (ti := ti) (kd := 0) v1.2.1 v1.2.2.1 v1.1.1 v1.1.2 v1.2.2.2.2 (VW_OR V) hk 0
    have lw := LV_lt (k := K) (fi := 0) (fc := 0) (ti := ti) (kd := 0) v1.2.1 v1.2.2.1 v1.1.1 v1.1.2 v1.2.2.2.2 or hk 0
    have dc := lN_dcmp (A := LV s d f c sl ti 0 K 0 0 CH (swO O x y) K 0) (B := LV s d f c sl ti 0 K 0 0 CH O K 0) (by omega) (by omega)
    rw [hv]
    refine wp_e2 (r_refused 0 I) (wp_t rfl ?_)
    refine wp_c3 (C_wEx (by decide) V7.2.1 v1 V7.2.2.2.2.2.2.2.2 h115 h.2.2.2.2.1.2 h1 hk hxc hyc) (fun r E M hE => ?_)
    obtain ⟨a1, a2, a3, a4⟩ := hE
    have a1 : r = lN (LV s d f c sl ti 0 K 0 0 CH (swO O x y) K 0) := a1
    have a2 : fr c_S17 (r_R7 I 0) E := a2
    have sE : sameL (r_R7 I 0) E := sameL_fr (fun a i l => live_11 l) (c_17_11 a2)
    have VE := VW_same sE V7
    unfold f_X3_worthNow
    refine wp_b3 (wp_c3 (C_worth (by decide) VE.2.1 v1 VE.2.2.2.2.2.2.2.2 ((a2 11 5 (fun z => by cases z)).trans h115) a3 h1 hk) (fun r2 F N hF => wp_some ?_))
    obtain ⟨b1, b2, b3, b4, b5⟩ := hF
    have b1 : r2 = lN (LV s d f c sl ti 0 K 0 0 CH O K 0) := b1
    have b2 : fr c_S17 E F := b2
    have sF : sameL (r_R7 I 0) F := sameL_tr sE (sameL_fr (fun a i l => live_11 l) (c_17_11 b2))
    have VF := VW_same sF V7
    -- the answer of either side
    have ans : ∀ (q : Int32 → Option (Int32 × e_I × e_L)), (if lg_cmp (r - r2) 0 ≤ 0 then (if lg_cmp (r - r2) 0 ≠ 0 then q (-2) else q 0) else q 1) = (if lg_cmp r r2 ≤ 0 then (if lg_cmp r r2 ≠ 0 then q (-2) else q 0) else q 1) := fun q => by
      rw [a1, b1]
      by_cases u : lg_cmp (lN (LV s d f c sl ti 0 K 0 0 CH (swO O x y) K 0)) (lN (LV s d f c sl ti 0 K 0 0 CH O K 0)) ≤ 0
      · rw [if_pos u, if_pos (dc.1.mpr u)]
        by_cases w : lg_cmp (lN (LV s d f c sl ti 0 K 0 0 CH (swO O x y) K 0)) (lN (LV s d f c sl ti 0 K 0 0 CH O K 0)) ≠ 0
        · rw [if_pos w, if_pos (dc.2.mpr w)]
        · rw [if_neg w, if_neg (fun n => w (dc.2.mp n))]
      · rw [if_neg u, if_neg (fun n => u (dc.1.mp n))]
    let A : Int32 := if lg_cmp r r2 ≤ 0 then (if lg_cmp r r2 ≠ 0 then -2 else 0) else 1
    have pick : ∀ (q : Int32 → Option (Int32 × e_I × e_L)), (if lg_cmp r r2 ≤ 0 then (if lg_cmp r r2 ≠ 0 then q (-2) else q 0) else q 1) = q A := fun q => by
      show _ = q (if lg_cmp r r2 ≤ 0 then (if lg_cmp r r2 ≠ 0 then -2 else 0) else 1)
      by_cases u : lg_cmp r r2 ≤ 0
      · rw [if_pos u, if_pos u]
        by_cases w : lg_cmp r r2 ≠ 0
        · rw [if_pos w, if_pos w]
        · rw [if_neg w, if_neg w]
      · rw [if_neg u, if_neg u]
    have e7 : (if lg_cmp (r - r2) 0 ≤ 0 then (if lg_cmp (r - r2) 0 ≠ 0 then f_X7_exchanged_103 (-2) F N else f_X7_exchanged_103 0 F N) else f_X7_exchanged_103 1 F N) = some (A, F, N) := (ans (fun v => f_X7_exchanged_103 v F N)).trans (pick (fun v => f_X7_exchanged_103 v F N))
    refine wp_let (wp_eq e7 ?_)
    show wp (f_X8_exchanged (nI x) (nI y) (nI K) F N) _
    rw [w8 F N (fun i => sF 85 i rfl)]
    unfold f_X8_exchanged_22
    refine wp_e1 (r_in _ _ _) (wp_e1 (r_unless_ _ _) ?_)
    rw [val, hv]
    refine wp_e2 (r_isRefused 0 F) (wp_t rfl ?_)
    have V8 := VW_R8 (v := 0) VF
    refine wp_c3 (M_worth (at0 := 60) V8.2.2.1 v1 (Or.inl rfl) (show 60 + c ≤ 396 by omega) (by decide) V8.2.2.2.1 hk) (fun s6 J2 M2 h2 => ?_)
    obtain ⟨i1, i2, i3, _⟩ := h2
    have i1 : s6 = lN (LV s d f c sl ti 0 K 0 0 CH O K 0) := i1
    have i2 : fr m_S4 (r_R8 F 0) J2 := i2
    have s2 : sameL (r_R8 F 0) J2 := sameL_fr (fun a i l => live_S4 l) i2
    have V2 := VW_same s2 V8
    have l85 : e_ln 85 = 396 := rfl
    have l93 : 9 ≤ e_ln 93 := by decide
    have e85 : J2 85 (0 : Int32).toNatClampNeg = nI c := V2.2.2.1.1
    rw [e85]
    refine wp_c1 (M_lays (a0 := 93) (a2 := 85) (x := 0) (y := 60) (n := c) (by decide) (by omega) (by rw [l85]; omega) (by omega) (by omega)) (fun J3 h3 => ?_)
    obtain ⟨f3, c3⟩ := h3
    refine wp_c1 (M_changes (a1 := 93) (x := x) (y := y) (by omega) (by omega) (by omega) (by omega)) (fun J4 h4 => ?_)
    obtain ⟨f4, c4⟩ := h4
    have o4 : ∀ a i, a ≠ 93 → J4 a i = J2 a i := fun a i z => (f4 a i z).trans (f3 a i (fun q => z q.1))
    have mo : ∀ i, i < c → J4 93 (0 + i) = nI (swO O x y i) ∧ swO O x y i < c := fun i hi => by
      refine ⟨?_, or i hi⟩
      have z := c3 (tau x y i) (tau_lt hxc hyc hi)
      rw [Nat.zero_add] at z ⊢
      rw [c4, z]
      exact (V2.2.2.2.1 _ (tau_lt hxc hyc hi)).1
    refine wp_c3 (M_worth (at0 := 0) (MV_85 (fun i => o4 85 i (by decide)) V2.2.2.1) v1 (Or.inr rfl) (by omega) (by decide) mo hk) (fun s11 J5 M5 h5 => ?_)
    obtain ⟨u1, u2, u3, _⟩ := h5
    have u1 : s11 = lN (LV s d f c sl ti 0 K 0 0 CH (swO O x y) K 0) := u1
    have u2 : fr m_S4 J4 J5 := u2
    have e8 : (if lg_cmp s11 s6 ≤ 0 then (if lg_cmp s11 s6 ≠ 0 then f_X8_exchanged_120 (-2) J5 M5 else f_X8_exchanged_120 0 J5 M5) else f_X8_exchanged_120 1 J5 M5) = some (A, J5, M5) := by
      rw [u1, i1, ← a1, ← b1]
      exact pick (fun v => f_X8_exchanged_120 v J5 M5)
    refine wp_eq e8 ⟨rfl, ?_⟩
    show Rl (t + 1) J5 M5
    have n93 : ∀ a i, r_live a i = true → a ≠ 93 := fun a i l z => by
      subst z
      cases (show false = true from l)
    refine Rl_fin (v := 0) (by decide) h sF (fun a i l => ?_) ?_ (c_Z_SL u3 (c_Z_SL i3 b4))
    · rw [u2 a i (live_S4 l), o4 a i (n93 a i l), s2 a i l]
    · rw [u2 11 5 (fun z => by rcases z with z | z | z <;> omega), o4 11 5 (by decide), i2 11 5 (fun z => by rcases z with z | z | z <;> omega)]
      exact b3
  · refine wp_e2 (r_refused _ I) ?_
    rw [r_b_n hv]
    refine wp_f (by decide) (wp_some ?_)
    have e8 : f_X8_exchanged i j k (r_R7 I (tD (I 83 6) W k 5)) L = some (-1, r_R8 (r_R7 I (tD (I 83 6) W k 5)) (tD (I 83 6) W k 5), L) := by
      rw [w8 (r_R7 I (tD (I 83 6) W k 5)) L (fun i => rfl)]
      unfold f_X8_exchanged_22
      rw [r_in, r_b1, r_unless_, r_b1, val, r_isRefused, r_b2, r_b_n hv, if_neg (by decide)]
    exact wp_eq e8 ⟨rfl, Rl_mono (Nat.le_succ t) (Rl_R tD_4 h)⟩
