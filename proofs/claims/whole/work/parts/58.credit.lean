-- added, credit, all
theorem t_un {α : Type} {s k : Int32} {F : Int32 → Option α} : e_b1 (f_X8_in k 1 5) (fun r1 => e_b1 (f_X8_unless_ s r1) F) = F (if s = 0 then 1 else if 1 ≤ k ∧ k ≤ 5 then 0 else 2) := by
  rw [r_in, r_b1, r_unless_, r_b1]
  by_cases h1 : s = 0
  · rw [if_pos h1, if_pos h1]
  · rw [if_neg h1, if_neg h1]
    by_cases h2 : 1 ≤ k ∧ k ≤ 5
    · rw [if_pos h2, if_neg (by decide), if_pos h2]
    · rw [if_neg h2, if_pos rfl, if_neg h2]
theorem tD_un {tx w k : Int32} : tD tx w k 5 = if (if tx = 0 then 0 else w) = 0 then 1 else if 1 ≤ k ∧ k ≤ 5 then 0 else 2 := by
  unfold tD
  by_cases h : tx = 0
  · rw [if_pos h, if_pos h, if_pos rfl]
  · rw [if_neg h, if_neg h]
theorem aI_same {I J : e_I} {b : Int32} {w u : Nat} {V : Nat → Nat} (h : ∀ i, J 27 i = I 27 i) : aI b J 23 w (aP J 23 w u V) = aI b I 23 w (aP I 23 w u V) ∧ aI b J 23 w (aN J 23 w V) = aI b I 23 w (aN I 23 w V) := by
  have e : ∀ w i k, lgC J 23 w i k = lgC I 23 w i k := fun w i k => h _
  refine ⟨?_, ?_⟩
  · funext j
    unfold aI aP
    simp only [e]
  · funext j
    unfold aI aN
    simp only [e]
theorem aP_same {I J : e_I} {w u : Nat} {V : Nat → Nat} (h : ∀ i, J 27 i = I 27 i) (j : Nat) : aP J 23 w u V j = aP I 23 w u V j ∧ aN J 23 w V j = aN I 23 w V j := by
  have e : ∀ w i k, lgC J 23 w i k = lgC I 23 w i k := fun w i k => h _
  unfold aP aN
  simp only [e]
  exact ⟨trivial, trivial⟩
theorem aP_le {I : e_I} {n w u j : Nat} {V : Nat → Nat} (h : LW I 23 n w) (hj : j < n) (hV : ∀ q, V q ≤ 204800000000000) (hu : u ≤ 10240000000000) : aP I 23 w u V j ≤ 245760000000000 ∧ aN I 23 w V j ≤ 245760000000000 := by
  obtain ⟨r, ah, bh, hr, ha, hb, ⟨c2, c4, c5⟩, _⟩ := LW_row h hj
  unfold aP aN
  have a := hV (r_n (lgC I 23 w j 5))
  have b := hV (r_n (lgC I 23 w j 4))
  rw [c2, nI_r (by omega)]
  have c := Nat.mul_le_mul_right u hr
  omega
theorem aI_le {I : e_I} {n w u j : Nat} {V : Nat → Nat} {b : Int32} (h : LW I 23 n w) (hj : j < n) (hV : ∀ q, V q ≤ 204800000000000) (hu : u ≤ 10240000000000) : aI b I 23 w (aP I 23 w u V) j ≤ 245760000000000 ∧ aI b I 23 w (aN I 23 w V) j ≤ 245760000000000 := by
  have k := aP_le h hj hV hu
  unfold aI
  by_cases c : b = -1 ∨ lgC I 23 w j 0 = b
  · rw [if_pos c, if_pos c]
    exact k
  · rw [if_neg c, if_neg c]
    omega
theorem LV_all {I : e_I} {g c s d f sl ti b p fc st kd k j : Nat} {CH : Nat → Nat → Nat} {O : Nat → Nat} (h : VW I g c s d f sl ti CH O b p fc st) (hj : j ≤ 5) : ∀ q, LV s d f c sl ti kd k p fc CH O j q ≤ 204800000000000 := fun q => LV_lt (k := k) (fi := p) (fc := fc) (ti := ti) (kd := kd) h.1.2.1 h.1.2.2.1 h.1.1.1 h.1.1.2 h.1.2.2.2.2 (VW_OR h) hj q
-- the sum over the log, or of one row, told alike
def gsum (b : Int32) (I : e_I) (n w u : Nat) (V : Nat → Nat) : Int64 := lN (hs (aI b I 23 w (aP I 23 w u V)) n) - lN (hs (aI b I 23 w (aN I 23 w V)) n)
theorem g_part {I : e_I} {n w u : Nat} {V : Nat → Nat} {b x : Int32} (h : LW I 23 n w) (hV : ∀ q, V q ≤ 204800000000000) (hu : u ≤ 10240000000000) (hu0 : 0 < u) : ∃ r, f_X7_part (gsum b I n w u V) (lN u) x = some r ∧ f_X8_part (gsum b I n w u V) (lN u) x = some r := by
  have n40 := h.2.2.1
  have p1 := hs_leB (B := 245760000000000) n (fun i hi => (aI_le (b := b) h hi hV hu).1)
  have p2 := hs_leB (B := 245760000000000) n (fun i hi => (aI_le (b := b) h hi hV hu).2)
  have p3 := Nat.mul_le_mul_right 245760000000000 n40
  obtain ⟨A, hA, e⟩ := lN_diff (P := hs (aI b I 23 w (aP I 23 w u V)) n) (N := hs (aI b I 23 w (aN I 23 w V)) n) (by omega) (by omega)
  exact r_part hA (by omega) hu0 e
theorem C_all {I : e_I} {L : e_L} {c s d f sl ti nx p fc st n w K : Nat} {CH : Nat → Nat → Nat} {O : Nat → Nat} {b : Int32} (V : VW I 23 c s d f sl ti CH O nx p fc st) (W : LW I 23 n w) (h115 : I 11 5 = 0) (hz : c_Z L) (hk : K ≤ 5) : wp (f_X7_addedTogether b (nI K) I L) (fun q => q.1 = gsum b I n w ((20 * c) ^ K) (LV s d f c sl ti 3 K p fc CH O K) ∧ fr c_S17 I q.2.1 ∧ c_Z q.2.2 ∧ c_U q.2.2 (20 * c)) := by
  unfold f_X7_addedTogether
  refine wp_c2 (C_layTable (fi := p) (fc := fc) (by decide) V.2.1 V.1 V.2.2.2.2.2.2.2.2 h115 hz hk) (fun J M hJ => ?_)
  obtain ⟨j2, j3, j4, j5, j6⟩ := hJ
  have sJ : sameL I J := sameL_fr (fun a i l => live_11 l) (c_17_11 j2)
  have sm := aI_same (b := b) (w := w) (u := (20 * c) ^ K) (V := LV s d f c sl ti 3 K p fc CH O K) (fun i => sJ 27 i rfl)
  refine wp_eq (C_together (LW_same sJ W) hk j5 (j6 K (by omega))) ⟨?_, j2, j4, j5⟩
  show lN _ - lN _ = lN _ - lN _
  rw [sm.1, sm.2]
theorem M_all {I I0 : e_I} {L : e_L} {c s d f sl ti nx p fc st n w K : Nat} {CH : Nat → Nat → Nat} {O : Nat → Nat} {b v : Int32} {x : Int64} (V : VW I 23 c s d f sl ti CH O nx p fc st) (W : LW I 23 n w) (h0 : LW I0 23 n w) (he : ∀ i, I 27 i = I0 27 i) (hk : K ≤ 5) (hx : f_X8_part (gsum b I0 n w ((20 * c) ^ K) (LV s d f c sl ti 3 K p fc CH O K)) (lN ((20 * c) ^ K)) v = some x) : wp (f_X8_addedByAll b (nI K) v I L) (fun q => q.1 = x ∧ fr m_S4 I q.2.1 ∧ frL m_SL L q.2.2) := by
  unfold f_X8_addedByAll
  refine wp_c2 (M_now (kd := 3) V (by decide) hk) (fun J M hJ => ?_)
  obtain ⟨i1, i2, i3, i4⟩ := hJ
  have sJ : sameL I J := sameL_fr (fun a i l => live_S4 l) i1
  have i26 : M 83 26 = lN ((20 * c) ^ K) := i4.1
  rw [M_together (u := (20 * c) ^ K) (V := LV s d f c sl ti 3 K p fc CH O K) (LW_same sJ W) h0 (fun j k => ((sJ 27 _ rfl).trans (he _)).symm) i26 i4.2.1 (LV_over K)]
  rw [i26]
  exact wp_e1 hx (wp_some ⟨rfl, i1, i2⟩)
theorem T_all (t : Nat) (ht : t < 600) : ST_all (Rl t) (Rl (t + 1)) := by
  intro k w I L h
  have hx := Rl_hx h
  refine st_2 ?_
  have w8 : ∀ (J : e_I) (N : e_L), J 83 6 = I 83 6 → f_X8_all k w J N = e_b2 (f_X8_isRefused (tD (I 83 6) (if 0 ≤ w ∧ w ≤ 1 then 1 else 0) k 5) J) (fun (r_3 : Int32) (I_4 : e_I) => if r_3 = 0 then (e_b3 (f_X8_addedByAll (-1) k w I_4 N) (fun (r_6 : Int64) (I_7 : e_I) (L_8 : e_L) => f_X8_all_50 r_6 I_7 L_8)) else (f_X8_all_50 (-1) I_4 N)) := fun J N hJ => by
    unfold f_X8_all f_X8_all_21 f_X8_all_22
    rw [hJ, t_un, t_un, r_in, r_b1, tD_un]
    by_cases h1 : I 83 6 = 0
    · rw [if_pos h1, if_pos h1]
    · rw [if_neg h1, if_neg h1]
      by_cases h2 : 0 ≤ w ∧ w ≤ 1
      · rw [if_pos h2, if_neg (by decide)]
      · rw [if_neg h2, if_pos rfl]
  unfold f_X7_all
  refine wp_e1 t_part (wp_e1 (t_depth7 hx) ?_)
  by_cases hv : tD (I 83 6) (if 0 ≤ w ∧ w ≤ 1 then 1 else 0) k 5 = 0
  · obtain ⟨hx6, hw, hk1, hk5⟩ := tD_0 hv
    obtain ⟨K, h1, hk, rfl⟩ := nI_btw (m := 1) (n := 5) rfl rfl hk1 hk5
    obtain ⟨c, s, d, f, sl, ti, CH, O, nx, p, fc, st, V⟩ := Rl_VW h hx6 (by omega)
    obtain ⟨n, w0, W⟩ := Rl_LW h hx6
    have V7 := VW_R7 (v := 0) V
    have W7 : LW (r_R7 I 0) 23 n w0 := LW_R7 W
    have h115 : r_R7 I 0 11 5 = 0 := h.2.2.2.2.1.1
    have hu := sSc_pow (c := c) (kd := 3) V.1.1.2 hk
    have hu0 := sSc_pos (c := c) (kd := 3) (j := K) V.1.1.1
    obtain ⟨x, x7, x8⟩ := g_part (b := -1) (x := w) W7 (LV_all (kd := 3) (k := K) V7 hk) hu hu0
    rw [hv]
    refine wp_e2 (r_refused 0 I) (wp_t rfl ?_)
    refine wp_c3 (C_all (b := -1) V7 W7 h115 h.2.2.2.2.1.2 hk) (fun r J M hJ => ?_)
    obtain ⟨j1, j2, j3, j4⟩ := hJ
    have j1 : r = gsum (-1) (r_R7 I 0) n w0 ((20 * c) ^ K) (LV s d f c sl ti 3 K p fc CH O K) := j1
    refine wp_e1 (C_unit j4 hk) ?_
    rw [j1]
    refine wp_e1 x7 (wp_some ?_)
    have sJ : sameL (r_R7 I 0) J := sameL_fr (fun a i l => live_11 l) (c_17_11 j2)
    show wp (f_X8_all (nI K) w J M) _
    rw [w8 J M (sJ 83 6 rfl), hv]
    refine wp_e2 (r_isRefused 0 J) (wp_t rfl ?_)
    unfold f_X8_all_50
    refine wp_c3 (M_all (I0 := r_R7 I 0) (VW_R8 (VW_same sJ V7)) (LW_R8 (LW_same sJ W7)) W7 (fun i => sJ 27 i rfl) hk x8) (fun r2 J2 M2 h2 => wp_some ⟨h2.1, ?_⟩)
    refine Rl_fin (v := 0) (by decide) h sJ (sameL_fr (fun a i l => live_S4 l) h2.2.1) ?_ (c_Z_SL h2.2.2 j3)
    exact (h2.2.1 11 5 (fun z => by rcases z with z | z | z <;> omega)).trans ((j2 11 5 (fun z => by cases z)).trans h115)
  · refine wp_e2 (r_refused _ I) ?_
    rw [r_b_n hv]
    refine wp_f (by decide) (wp_some ?_)
    show wp (f_X8_all k w (r_R7 I _) L) _
    rw [w8 (r_R7 I _) L rfl]
    refine wp_e2 (r_isRefused _ _) ?_
    rw [r_b_n hv]
    exact wp_f (by decide) (wp_some ⟨rfl, Rl_mono (Nat.le_succ t) (Rl_R tD_4 h)⟩)
theorem T_credit (t : Nat) (ht : t < 600) : ST_credit (Rl t) (Rl (t + 1)) := by
  intro b k w I L h
  have hx := Rl_hx h
  obtain ⟨m1, m2, m3⟩ := r_many h.2.2.1
  let C : Int32 := if (0 ≤ b ∧ b < I 85 0) ∧ (0 ≤ w ∧ w ≤ 1) then 1 else 0
  refine st_2 ?_
  have w7 : f_X7_credit b k w I L = f_X7_credit_25 b k w C I L := by
    unfold f_X7_credit f_X7_credit_24
    rw [r_batter_has, r_b1, m1]
    by_cases h1 : 0 ≤ b ∧ b < I 85 0
    · rw [if_pos h1, if_neg (by decide), t_part, r_b1]
      by_cases h2 : 0 ≤ w ∧ w ≤ 1
      · rw [if_pos h2, if_neg (by decide), show C = 1 from if_pos ⟨h1, h2⟩]
      · rw [if_neg h2, if_pos rfl, show C = 0 from if_neg (fun n => h2 n.2)]
    · rw [if_neg h1, if_pos rfl, show C = 0 from if_neg (fun n => h1 n.1)]
  have w8 : ∀ (J : e_I) (N : e_L), (∀ i, J 85 i = I 85 i) → f_X8_credit b k w J N = f_X8_credit_23 b k w C J N := fun J N hJ => by
    have hb8 : f_X8_isBatter b J = some (if 0 ≤ b ∧ b < I 85 0 then 1 else 0) := by
      have e := r_isBatter (I := J) (v := b) (by rw [hJ]; exact m2) (by rw [hJ]; exact m3)
      rwa [hJ] at e
    unfold f_X8_credit f_X8_credit_22
    rw [hb8, r_b1]
    by_cases h1 : 0 ≤ b ∧ b < I 85 0
    · rw [if_pos h1, if_neg (by decide), r_in, r_b1]
      by_cases h2 : 0 ≤ w ∧ w ≤ 1
      · rw [if_pos h2, if_neg (by decide), show C = 1 from if_pos ⟨h1, h2⟩]
      · rw [if_neg h2, if_pos rfl, show C = 0 from if_neg (fun n => h2 n.2)]
    · rw [if_neg h1, if_pos rfl, show C = 0 from if_neg (fun n => h1 n.1)]
  have tC : tD (I 83 6) C k 5 = if C = 0 then 1 else if 1 ≤ k ∧ k ≤ 5 then 0 else 2 := by
    rw [tD_un]
    by_cases h1 : I 83 6 = 0
    · have : C = 0 := if_neg (fun n => Rl_tx h n.1 h1)
      rw [this, if_pos h1]
    · rw [if_neg h1]
  rw [w7]
  unfold f_X7_credit_25
  refine wp_e1 (t_depth7 hx) ?_
  by_cases hv : tD (I 83 6) C k 5 = 0
  · obtain ⟨hx6, hw, hk1, hk5⟩ := tD_0 hv
    obtain ⟨K, h1, hk, rfl⟩ := nI_btw (m := 1) (n := 5) rfl rfl hk1 hk5
    obtain ⟨c, s, d, f, sl, ti, CH, O, nx, p, fc, st, V⟩ := Rl_VW h hx6 (by omega)
    obtain ⟨n, w0, W⟩ := Rl_LW h hx6
    have V7 := VW_R7 (v := 0) V
    have W7 : LW (r_R7 I 0) 23 n w0 := LW_R7 W
    have h115 : r_R7 I 0 11 5 = 0 := h.2.2.2.2.1.1
    have hu := sSc_pow (c := c) (kd := 3) V.1.1.2 hk
    have hu0 := sSc_pos (c := c) (kd := 3) (j := K) V.1.1.1
    obtain ⟨x, x7, x8⟩ := g_part (b := b) (x := w) W7 (LV_all (kd := 3) (k := K) V7 hk) hu hu0
    rw [hv]
    refine wp_e2 (r_refused 0 I) (wp_t rfl ?_)
    refine wp_c3 (C_all (b := b) V7 W7 h115 h.2.2.2.2.1.2 hk) (fun r J M hJ => ?_)
    obtain ⟨j1, j2, j3, j4⟩ := hJ
    have j1 : r = gsum b (r_R7 I 0) n w0 ((20 * c) ^ K) (LV s d f c sl ti 3 K p fc CH O K) := j1
    refine wp_e1 (C_unit j4 hk) ?_
    rw [j1]
    refine wp_e1 x7 (wp_some ?_)
    have sJ : sameL (r_R7 I 0) J := sameL_fr (fun a i l => live_11 l) (c_17_11 j2)
    show wp (f_X8_credit b (nI K) w J M) _
    rw [w8 J M (fun i => sJ 85 i rfl)]
    unfold f_X8_credit_23 f_X8_credit_51
    rw [t_un, ← tC, hv]
    refine wp_e2 (r_isRefused 0 J) (wp_t rfl ?_)
    refine wp_c3 (M_all (I0 := r_R7 I 0) (VW_R8 (VW_same sJ V7)) (LW_R8 (LW_same sJ W7)) W7 (fun i => sJ 27 i rfl) hk x8) (fun r2 J2 M2 h2 => wp_some ⟨h2.1, ?_⟩)
    refine Rl_fin (v := 0) (by decide) h sJ (sameL_fr (fun a i l => live_S4 l) h2.2.1) ?_ (c_Z_SL h2.2.2 j3)
    exact (h2.2.1 11 5 (fun z => by rcases z with z | z | z <;> omega)).trans ((j2 11 5 (fun z => by cases z)).trans h115)
  · refine wp_e2 (r_refused _ I) ?_
    rw [r_b_n hv]
    refine wp_f (by decide) (wp_some ?_)
    show wp (f_X8_credit b k w (r_R7 I _) L) _
    rw [w8 (r_R7 I _) L (fun i => rfl)]
    unfold f_X8_credit_23 f_X8_credit_51
    rw [t_un, ← tC]
    refine wp_e2 (r_isRefused _ _) ?_
    rw [r_b_n hv]
    exact wp_f (by decide) (wp_some ⟨rfl, Rl_mono (Nat.le_succ t) (Rl_R tD_4 h)⟩)
theorem T_added (t : Nat) (ht : t < 600) : ST_added (Rl t) (Rl (t + 1)) := by
  intro i k w I L h
  have hx := Rl_hx h
  refine st_2 ?_
  by_cases hx6 : I 83 6 = 0
  · -- no text: nothing is asked of the log
    have w7 : ∃ C : Int32, f_X7_added i k w I L = f_X7_added_25 i k w C I L := by
      unfold f_X7_added f_X7_added_24
      rw [r_hasRow, r_b1]
      by_cases h1 : 0 ≤ i ∧ i < I 23 6
      · rw [if_pos h1, if_neg (by decide), t_part, r_b1]
        by_cases h2 : 0 ≤ w ∧ w ≤ 1
        · rw [if_pos h2, if_neg (by decide)]
          exact ⟨1, rfl⟩
        · rw [if_neg h2, if_pos rfl]
          exact ⟨0, rfl⟩
      · rw [if_neg h1, if_pos rfl]
        exact ⟨0, rfl⟩
    obtain ⟨C, w7⟩ := w7
    have tC : tD (I 83 6) C k 5 = 1 := by
      unfold tD
      rw [if_pos hx6]
    rw [w7]
    unfold f_X7_added_25
    refine wp_e1 (t_depth7 hx) ?_
    rw [tC]
    refine wp_e2 (r_refused _ I) (wp_f (by decide) (wp_some ?_))
    have e0 : r_R7 I 1 83 6 = 0 := hx6
    show wp (f_X8_added i k w (r_R7 I 1) L) _
    unfold f_X8_added f_X8_added_38
    rw [if_pos e0]
    unfold f_X8_added_39
    rw [t_un, if_pos rfl]
    exact wp_e2 (r_isRefused _ _) (wp_f (by decide) (wp_some ⟨rfl, Rl_mono (Nat.le_succ t) (Rl_R (by decide) h)⟩))
  · obtain ⟨n, w0, W⟩ := Rl_LW h hx6
    let C : Int32 := if (0 ≤ i ∧ i < nI n) ∧ (0 ≤ w ∧ w ≤ 1) then 1 else 0
    have w7 : f_X7_added i k w I L = f_X7_added_25 i k w C I L := by
      unfold f_X7_added f_X7_added_24
      rw [r_hasRow, r_b1, W.1]
      by_cases h1 : 0 ≤ i ∧ i < nI n
      · rw [if_pos h1, if_neg (by decide), t_part, r_b1]
        by_cases h2 : 0 ≤ w ∧ w ≤ 1
        · rw [if_pos h2, if_neg (by decide), show C = 1 from if_pos ⟨h1, h2⟩]
        · rw [if_neg h2, if_pos rfl, show C = 0 from if_neg (fun n => h2 n.2)]
      · rw [if_neg h1, if_pos rfl, show C = 0 from if_neg (fun n => h1 n.1)]
    have w8 : ∀ (J : e_I) (N : e_L), J 83 6 = I 83 6 → J 85 75 = I 85 75 → f_X8_added i k w J N = f_X8_added_39 i k w C J N := fun J N hJ hJ2 => by
      unfold f_X8_added f_X8_added_38
      rw [hJ, if_neg hx6, M_inRow (hJ2.trans W.2.1) W.2.2.1, r_b1]
      by_cases h1 : 0 ≤ i ∧ i < nI n
      · rw [if_pos h1, if_neg (by decide), r_in, r_b1]
        by_cases h2 : 0 ≤ w ∧ w ≤ 1
        · rw [if_pos h2, if_neg (by decide), show C = 1 from if_pos ⟨h1, h2⟩]
        · rw [if_neg h2, if_pos rfl, show C = 0 from if_neg (fun n => h2 n.2)]
      · rw [if_neg h1, if_pos rfl, show C = 0 from if_neg (fun n => h1 n.1)]
    have tC : tD (I 83 6) C k 5 = if C = 0 then 1 else if 1 ≤ k ∧ k ≤ 5 then 0 else 2 := by
      rw [tD_un, if_neg hx6]
    rw [w7]
    unfold f_X7_added_25
    refine wp_e1 (t_depth7 hx) ?_
    by_cases hv : tD (I 83 6) C k 5 = 0
    · obtain ⟨_, hw, hk1, hk5⟩ := tD_0 hv
      have hc : (0 ≤ i ∧ i < nI n) ∧ (0 ≤ w ∧ w ≤ 1) := by
        by_cases q : (0 ≤ i ∧ i < nI n) ∧ (0 ≤ w ∧ w ≤ 1)
        · exact q
        · exact absurd (if_neg q) hw
      obtain ⟨K, h1, hk, rfl⟩ := nI_btw (m := 1) (n := 5) rfl rfl hk1 hk5
      obtain ⟨c, s, d, f, sl, ti, CH, O, nx, p, fc, st, V⟩ := Rl_VW h hx6 (by omega)
      have n40 := W.2.2.1
      obtain ⟨j, hj2, rfl⟩ := nI_of (Int32.not_lt.mpr hc.1.1)
      have hj : j < n := (nI_ltI hj2 (by omega)).mp hc.1.2
      have V7 := VW_R7 (v := 0) V
      have W7 : LW (r_R7 I 0) 23 n w0 := LW_R7 W
      have h115 : r_R7 I 0 11 5 = 0 := h.2.2.2.2.1.1
      have hu := sSc_pow (c := c) (kd := 3) V.1.1.2 hk
      have hu0 := sSc_pos (c := c) (kd := 3) (j := K) V.1.1.1
      have e20 : sSc c 3 = 20 * c := rfl
      rw [e20] at hu hu0
      have hle := aP_le W7 hj (LV_all (kd := 3) (k := K) V7 hk) hu
      obtain ⟨A, hA, eA⟩ := lN_diff (P := aP (r_R7 I 0) 23 w0 ((20 * c) ^ K) (LV s d f c sl ti 3 K p fc CH O K) j) (N := aN (r_R7 I 0) 23 w0 (LV s d f c sl ti 3 K p fc CH O K) j) (by omega) (by omega)
      obtain ⟨x, x7, x8⟩ := r_part (w := w) hA (B := (20 * c) ^ K) (by omega) hu0 eA
      rw [hv]
      refine wp_e2 (r_refused 0 I) (wp_t rfl ?_)
      refine wp_c2 (C_layTable (fi := p) (fc := fc) (by decide) V7.2.1 V.1 V7.2.2.2.2.2.2.2.2 h115 h.2.2.2.2.1.2 hk) (fun J M hJ => ?_)
      obtain ⟨j2, j3, j4, j5, j6⟩ := hJ
      have sJ : sameL (r_R7 I 0) J := sameL_fr (fun a i l => live_11 l) (c_17_11 j2)
      have ad := C_addedBy (LW_same sJ W7) hj hk j5 (j6 K (by omega))
      have sm := aP_same (w := w0) (u := (20 * c) ^ K) (V := LV s d f c sl ti 3 K p fc CH O K) (fun i => sJ 27 i rfl) j
      rw [sm.1, sm.2] at ad
      refine wp_e1 ad (wp_e1 (C_unit j5 hk) (wp_e1 x7 (wp_some ?_)))
      show wp (f_X8_added (nI j) (nI K) w J M) _
      rw [w8 J M (sJ 83 6 rfl) (sJ 85 75 rfl)]
      unfold f_X8_added_39
      rw [t_un, ← tC, hv]
      refine wp_e2 (r_isRefused 0 J) (wp_t rfl ?_)
      refine wp_c2 (M_now (kd := 3) (k := K) (VW_R8 (VW_same sJ V7)) (by decide) hk) (fun J2 M2 h2 => ?_)
      obtain ⟨i1, i2, i3, i4⟩ := h2
      have s2 : sameL (r_R8 J 0) J2 := sameL_fr (fun a i l => live_S4 l) i1
      have i26 : M2 83 26 = lN ((20 * c) ^ K) := i4.1
      have ab := M_addedBy (I := r_R7 I 0) (u := (20 * c) ^ K) (V := LV s d f c sl ti 3 K p fc CH O K) (LW_same s2 (LW_R8 (LW_same sJ W7))) W7 (fun k => ((s2 27 _ rfl).trans (sJ 27 _ rfl)).symm) hj i26 i4.2.1 (LV_over K)
      refine wp_e1 ab ?_
      rw [i26]
      refine wp_e1 x8 (wp_some ⟨rfl, ?_⟩)
      refine Rl_fin (v := 0) (by decide) h sJ s2 ?_ (c_Z_SL i2 j4)
      exact (i1 11 5 (fun z => by rcases z with z | z | z <;> omega)).trans ((j2 11 5 (fun z => by cases z)).trans h115)
    · refine wp_e2 (r_refused _ I) ?_
      rw [r_b_n hv]
      refine wp_f (by decide) (wp_some ?_)
      show wp (f_X8_added i k w (r_R7 I _) L) _
      rw [w8 (r_R7 I _) L rfl rfl]
      unfold f_X8_added_39
      rw [t_un, ← tC]
      refine wp_e2 (r_isRefused _ _) ?_
      rw [r_b_n hv]
      exact wp_f (by decide) (wp_some ⟨rfl, Rl_mono (Nat.le_succ t) (Rl_R tD_4 h)⟩)
