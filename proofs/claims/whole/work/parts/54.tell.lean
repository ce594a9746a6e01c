-- worth; what is told
def tD (tx w k m : Int32) : Int32 := if tx = 0 then 1 else if w = 0 then 1 else if 1 ≤ k ∧ k ≤ m then 0 else 2
theorem t_depth7 {I : e_I} {w k m : Int32} (hx : f_X7_hasText I = some (I 83 6)) : f_X7_troubleOfDepth w k m I = some (tD (I 83 6) w k m) := by
  unfold f_X7_troubleOfDepth f_X7_troubleOfDepth_11 f_X7_troubleOfDepth_27 tD
  rw [hx, r_b1]
  by_cases h1 : I 83 6 = 0
  · rw [if_pos h1, if_pos h1]
  · rw [if_neg h1, if_neg h1]
    by_cases h2 : w = 0
    · rw [if_neg (fun n => n h2), if_pos h2]
    · rw [if_pos h2, if_neg h2, r_within, r_b1]
      by_cases h3 : 1 ≤ k ∧ k ≤ m
      · rw [if_pos h3, if_neg (by decide), if_pos h3]
      · rw [if_neg h3, if_pos rfl, if_neg h3]
theorem tD_0 {tx w k m : Int32} (h : tD tx w k m = 0) : tx ≠ 0 ∧ w ≠ 0 ∧ 1 ≤ k ∧ k ≤ m := by
  unfold tD at h
  by_cases h1 : tx = 0
  · rw [if_pos h1] at h
    exact absurd h (by decide)
  · rw [if_neg h1] at h
    by_cases h2 : w = 0
    · rw [if_pos h2] at h
      exact absurd h (by decide)
    · rw [if_neg h2] at h
      by_cases h3 : 1 ≤ k ∧ k ≤ m
      · exact ⟨h1, h2, h3⟩
      · rw [if_neg h3] at h
        exact absurd h (by decide)
theorem tD_4 {tx w k m : Int32} : tD tx w k m ≠ 4 := by
  unfold tD
  by_cases h1 : tx = 0
  · rw [if_pos h1]
    decide
  · rw [if_neg h1]
    by_cases h2 : w = 0
    · rw [if_pos h2]
      decide
    · rw [if_neg h2]
      by_cases h3 : 1 ≤ k ∧ k ≤ m
      · rw [if_pos h3]
        decide
      · rw [if_neg h3]
        decide
-- the worth of an order, on both sides
theorem C_worth {I : e_I} {L : e_L} {g c s d f sl ti k : Nat} {CH : Nat → Nat → Nat} {O : Nat → Nat} (hg : 23 ≤ g) (hv : CV I g c s d f sl ti CH O) (hn : NV c s d f sl ti CH) (hT : c_T I s d f) (h11 : I 11 5 = 0) (hz : c_Z L) (h1 : 1 ≤ k) (hk : k ≤ 5) : wp (f_X1_plainMean g 0 0 (nI k) 0 I L) (fun q => q.1 = lN (LV s d f c sl ti 0 k 0 0 CH O k 0) ∧ fr c_S17 I q.2.1 ∧ q.2.1 11 5 = 0 ∧ c_Z q.2.2 ∧ c_U q.2.2 20) := by
  have ha : c_any I ((0 : Nat) == 1) := h11
  refine wp_mono (C_plainMean (kd := 0) (fi := 0) (fc := 0) (st := 0) hg hv hn hT (by decide) ha hz (by decide) h1 hk (by decide) (by decide)) (fun q hq => ⟨hq.1, hq.2.1, ?_, hq.2.2.2.1, hq.2.2.2.2⟩)
  exact (hq.2.1 11 5 (fun z => by cases z)).trans h11
theorem M_worth {I : e_I} {L : e_L} {a3 c s d f sl ti k at0 : Nat} {CH : Nat → Nat → Nat} {O : Nat → Nat} (hm : MV I c s d f sl ti CH) (hn : NV c s d f sl ti CH) (ha : a3 = 85 ∨ a3 = 93) (hln : at0 + c ≤ e_ln a3) (hln2 : at0 < 1000) (hO : ∀ i, i < c → I a3 (at0 + i) = nI (O i) ∧ O i < c) (hk : k ≤ 5) : wp (f_X8_worthOf a3 (nI at0) (nI k) I L) (fun q => q.1 = lN (LV s d f c sl ti 0 k 0 0 CH O k 0) ∧ fr m_S4 I q.2.1 ∧ frL m_SL L q.2.2 ∧ q.2.2 83 26 = lN (20 ^ k)) := by
  unfold f_X8_worthOf
  refine wp_c2 (M_out (kd := 0) (sl := sl) (fi := 0) (fc := 0) (OR := O) hm hn (fun z => absurd z (by decide)) hn.2.2.1 ha hln hln2 hO (by decide) hk (by decide) (by decide)) (fun J M hJ => wp_some ⟨hJ.2.2.2.1 0 (by decide), fr_mono (fun a i z => by unfold m_S4; rcases z with z | z | z <;> omega) hJ.1, hJ.2.1, hJ.2.2.1⟩)
theorem T_worth (t : Nat) (ht : t < 600) : ST_worth (Rl t) (Rl (t + 1)) := by
  intro k w I L h
  have hx := Rl_hx h
  refine st_2 ?_
  have w8 : ∀ (J : e_I) (N : e_L), J 83 6 = I 83 6 → f_X8_worth k w J N = e_b2 (f_X8_isRefused (tD (I 83 6) (if 0 ≤ w ∧ w ≤ 1 then 1 else 0) k 5) J) (fun (r_3 : Int32) (I_4 : e_I) => if r_3 = 0 then (e_b3 (f_X8_worthOf 85 60 k I_4 N) (fun (r_6 : Int64) (I_7 : e_I) (L_8 : e_L) => e_b1 (f_X8_part r_6 (L_8 83 26) w) (fun (r_9 : Int64) => some (r_9, I_7, L_8)))) else (some ((-1), I_4, N))) := fun J N hJ => by
    have k22 : ∀ s : Int32, (e_b1 (f_X8_in k 1 5) fun r_1 => e_b1 (f_X8_unless_ s r_1) fun r_2 => some r_2) = some (if s = 0 then 1 else if 1 ≤ k ∧ k ≤ 5 then 0 else 2) := fun s => by
      rw [r_in, r_b1, r_unless_, r_b1]
      by_cases h1 : s = 0
      · rw [if_pos h1, if_pos h1]
      · rw [if_neg h1, if_neg h1]
        by_cases h2 : 1 ≤ k ∧ k ≤ 5
        · rw [if_pos h2, if_neg (by decide), if_pos h2]
        · rw [if_neg h2, if_pos rfl, if_neg h2]
    have k23 : ∀ s v : Int32, (if s = 0 then 1 else if 1 ≤ k ∧ k ≤ 5 then 0 else 2) = v → f_X8_worth_22 k w s J N = e_b2 (f_X8_isRefused v J) (fun (r_3 : Int32) (I_4 : e_I) => if r_3 = 0 then (e_b3 (f_X8_worthOf 85 60 k I_4 N) (fun (r_6 : Int64) (I_7 : e_I) (L_8 : e_L) => e_b1 (f_X8_part r_6 (L_8 83 26) w) (fun (r_9 : Int64) => some (r_9, I_7, L_8)))) else (some ((-1), I_4, N))) := fun s v e => by
      have k := k22 s
      rw [r_in, r_b1, r_unless_, r_b1, e] at k
      unfold f_X8_worth_22
      rw [r_in, r_b1, r_unless_, r_b1, Option.some.inj k]
    unfold f_X8_worth f_X8_worth_21
    rw [hJ, r_in, r_b1]
    by_cases h1 : I 83 6 = 0
    · rw [if_pos h1, k23 0 1 rfl]
      unfold tD
      rw [if_pos h1]
    · rw [if_neg h1]
      by_cases h2 : 0 ≤ w ∧ w ≤ 1
      · rw [if_pos h2, if_neg (by decide), k23 1 _ rfl]
        unfold tD
        rw [if_neg h1]
      · rw [if_neg h2, if_pos rfl, k23 0 1 rfl]
        unfold tD
        rw [if_neg h1]
        rfl
  unfold f_X7_worth
  refine wp_e1 t_part (wp_e1 (t_depth7 hx) ?_)
  by_cases hv : tD (I 83 6) (if 0 ≤ w ∧ w ≤ 1 then 1 else 0) k 5 = 0
  · obtain ⟨hx6, hw, hk1, hk5⟩ := tD_0 hv
    obtain ⟨K, h1, hk, rfl⟩ := nI_btw (m := 1) (n := 5) rfl rfl hk1 hk5
    obtain ⟨c, s, d, f, sl, ti, CH, O, nx, p, fc, st, V⟩ := Rl_VW h hx6 (by omega)
    have V7 := VW_R7 (v := 0) V
    have h115 : r_R7 I 0 11 5 = 0 := h.2.2.2.2.1.1
    have v1 := V.1
    have c9 : c ≤ 9 := v1.1.2
    have lv := LV_lt (k := K) (fi := 0) (fc := 0) (ti := ti) (kd := 0) v1.2.1 v1.2.2.1 v1.1.1 v1.1.2 v1.2.2.2.2 (VW_OR V) hk 0
    have b48 := sSc_pow (c := c) (kd := 0) v1.1.2 hk
    have e20 : sSc c 0 = 20 := rfl
    rw [e20] at b48
    obtain ⟨x, x7, x8⟩ := r_part (A := LV s d f c sl ti 0 K 0 0 CH O K 0) (B := 20 ^ K) (w := w) (by omega) (by omega) (Nat.pow_pos (by decide)) (Or.inl rfl)
    rw [hv]
    refine wp_e2 (r_refused 0 I) (wp_t rfl ?_)
    unfold f_X3_worthNow
    refine wp_b3 (wp_c3 (C_worth (by decide) V7.2.1 v1 V7.2.2.2.2.2.2.2.2 h115 h.2.2.2.2.1.2 h1 hk) (fun r J M hJ => wp_some ?_))
    obtain ⟨j1, j2, j3, j4, j5⟩ := hJ
    have j1 : r = lN (LV s d f c sl ti 0 K 0 0 CH O K 0) := j1
    refine wp_e1 (C_unit j5 hk) ?_
    rw [j1]
    refine wp_e1 x7 (wp_some ?_)
    have sJ : sameL (r_R7 I 0) J := sameL_fr (fun a i l => live_11 l) (c_17_11 j2)
    show wp (f_X8_worth (nI K) w J M) _
    rw [w8 J M (sJ 83 6 rfl), hv]
    have V8 := VW_R8 (v := 0) (VW_same sJ V7)
    refine wp_e2 (r_isRefused 0 J) (wp_t rfl ?_)
    refine wp_c3 (M_worth (at0 := 60) V8.2.2.1 v1 (Or.inl rfl) (show 60 + c ≤ 396 by omega) (by decide) V8.2.2.2.1 hk) (fun r2 J2 M2 h2 => ?_)
    obtain ⟨i1, i2, i3, i4⟩ := h2
    have i1 : r2 = lN (LV s d f c sl ti 0 K 0 0 CH O K 0) := i1
    have i4 : M2 83 26 = lN (20 ^ K) := i4
    rw [i1, i4]
    refine wp_e1 x8 (wp_some ⟨rfl, ?_⟩)
    refine Rl_fin (v := 0) (by decide) h sJ (sameL_fr (fun a i l => live_S4 l) i2) ?_ (c_Z_SL i3 j4)
    exact (i2 11 5 (fun z => by rcases z with z | z | z <;> omega)).trans j3
  · refine wp_e2 (r_refused _ I) ?_
    rw [r_b_n hv]
    refine wp_f (by decide) (wp_some ?_)
    show wp (f_X8_worth k w (r_R7 I _) L) _
    rw [w8 (r_R7 I _) L rfl]
    refine wp_e2 (r_isRefused _ _) ?_
    rw [r_b_n hv]
    exact wp_f (by decide) (wp_some ⟨rfl, Rl_mono (Nat.le_succ t) (Rl_R tD_4 h)⟩)
