-- plain, any, table, wise
theorem Rl_hx {t : Nat} {I : e_I} {L : e_L} (h : Rl t I L) : f_X7_hasText I = some (I 83 6) := r_hasText h.2.2.1
theorem M_toCome_bad {kd b o k w v : Int32} {J : e_I} {L : e_L} (e : tA (J 83 6) (if 0 ≤ w ∧ w ≤ 1 then 1 else 0) b o k = v) (hv : v ≠ 0) : f_X8_toCome kd b o k w J L = some (-1, r_R8 J v, L) := by
  have n1 : ¬ (1 : Int32) = 0 := by decide
  unfold f_X8_toCome
  rw [r_in, r_b1, t_ahead8, r_b1, e, r_isRefused, r_b2, r_b_n hv, if_neg n1]
-- the model's answer to the four
theorem M_toCome {I : e_I} {L : e_L} {c s d f sl ti b p fc st kd k B Q : Nat} {CH : Nat → Nat → Nat} {O : Nat → Nat} {w : Int32} {x : Int64} (h : VW I 23 c s d f sl ti CH O b p fc st) (hx : I 83 6 ≠ 0) (hw : 0 ≤ w ∧ w ≤ 1) (hB : B ≤ 7) (hQ : Q ≤ 2) (h1 : 1 ≤ k) (hk : k ≤ 5) (hkd : kd < 4) (hp : f_X8_part (lN (LV s d f c sl ti kd k p fc CH O k (Q * 8 + B))) (lN (sSc c kd ^ k)) w = some x) : wp (f_X8_toCome (nI kd) (nI B) (nI Q) (nI k) w I L) (fun q => q.1 = x ∧ sameL (r_R8 I 0) q.2.1 ∧ q.2.1 11 5 = I 11 5 ∧ frL m_SL L q.2.2) := by
  have ta : tA (I 83 6) 1 (nI B) (nI Q) (nI k) = 0 := by
    unfold tA
    rw [if_neg hx, if_neg (by decide), if_pos ⟨nI_pos' (by omega), nI_le (b := 7) hB (by decide)⟩, if_pos ⟨nI_pos' (by omega), nI_le (b := 2) hQ (by decide)⟩, if_pos ⟨nI_le (a := 1) h1 (by omega), nI_le (b := 5) hk (by decide)⟩]
  have ix : (8 : Int32) * nI Q + nI B = nI (Q * 8 + B) := by rw [n8, nI_mul, nI_add, Nat.mul_comm]
  unfold f_X8_toCome
  refine wp_e1 (r_in _ _ _) ?_
  rw [if_pos hw]
  refine wp_e1 t_ahead8 ?_
  rw [ta]
  refine wp_e2 (r_isRefused 0 I) (wp_t rfl ?_)
  refine wp_c2 (M_now (VW_R8 h) hkd hk) (fun J M hJ => ?_)
  obtain ⟨j1, j2, j3, j4⟩ := hJ
  rw [ix]
  have a89 : M 89 (Q * 8 + B) = lN (LV s d f c sl ti kd k p fc CH O k (Q * 8 + B)) := j4.2.1 _ (by omega)
  have a26 : M 83 26 = lN (sSc c kd ^ k) := j4.1
  refine wp_as (nI_ix (by omega) (by omega)) ?_
  rw [nI_clamp (by omega), a89, a26]
  refine wp_e1 hp (wp_some ⟨rfl, sameL_fr (fun a i l => live_S4 l) j1, ?_, j2⟩)
  exact (j1 11 5 (fun z => by rcases z with z | z | z <;> omega)).trans rfl
theorem LV_62 {I : e_I} {g c s d f sl ti b p fc st kd k j q : Nat} {CH : Nat → Nat → Nat} {O : Nat → Nat} (h : VW I g c s d f sl ti CH O b p fc st) (hj : j ≤ 5) : LV s d f c sl ti kd k p fc CH O j q < 2 ^ 62 := by
  have a := LV_lt (k := k) (fi := p) (fc := fc) (ti := ti) (kd := kd) h.1.2.1 h.1.2.2.1 h.1.1.1 h.1.1.2 h.1.2.2.2.2 (VW_OR h) hj q
  omega
theorem sSc_pos {c kd j : Nat} (h : 0 < c) : 0 < sSc c kd ^ j := by
  refine Nat.pow_pos ?_
  unfold sSc
  by_cases q : kd = 2
  · rw [if_pos q]
    decide
  · rw [if_neg q]
    by_cases q2 : kd = 3
    · rw [if_pos q2]
      omega
    · rw [if_neg q2]
      decide
theorem r_partLV {I : e_I} {g c s d f sl ti b p fc st kd k j q : Nat} {CH : Nat → Nat → Nat} {O : Nat → Nat} (h : VW I g c s d f sl ti CH O b p fc st) (hj : j ≤ 5) (w : Int32) : ∃ r, f_X7_part (lN (LV s d f c sl ti kd k p fc CH O j q)) (lN (sSc c kd ^ j)) w = some r ∧ f_X8_part (lN (LV s d f c sl ti kd k p fc CH O j q)) (lN (sSc c kd ^ j)) w = some r := by
  have b48 := sSc_pow (c := c) (kd := kd) h.1.1.2 hj
  exact r_part (LV_62 h hj) (by omega) (sSc_pos h.1.1.1) (Or.inl rfl)
-- what both have, when nothing is refused
theorem t_good {t : Nat} {I : e_I} {L : e_L} {w b o k : Int32} (h : Rl t I L) (ht : t < 600) (hv : tA (I 83 6) (if 0 ≤ w ∧ w ≤ 1 then 1 else 0) b o k = 0) : (0 ≤ w ∧ w ≤ 1) ∧ ∃ B Q K : Nat, B ≤ 7 ∧ Q ≤ 2 ∧ 1 ≤ K ∧ K ≤ 5 ∧ b = nI B ∧ o = nI Q ∧ k = nI K ∧ ∃ c s d f sl ti CH O b p fc st, VW I 23 c s d f sl ti CH O b p fc st := by
  obtain ⟨h1, h2, h3, h4, h5⟩ := tA_0 hv
  obtain ⟨B, _, hB, eB⟩ := nI_btw (m := 0) (n := 7) rfl rfl h3.1 h3.2
  obtain ⟨Q, _, hQ, eQ⟩ := nI_btw (m := 0) (n := 2) rfl rfl h4.1 h4.2
  obtain ⟨K, hK1, hK, eK⟩ := nI_btw (m := 1) (n := 5) rfl rfl h5.1 h5.2
  refine ⟨?_, B, Q, K, hB, hQ, hK1, hK, eB, eQ, eK, Rl_VW h h1 (by omega)⟩
  by_cases q : 0 ≤ w ∧ w ≤ 1
  · exact q
  · rw [if_neg q] at h2
    exact absurd rfl h2
theorem C_ruled {I : e_I} {g c s d f sl ti : Nat} {CH : Nat → Nat → Nat} {O : Nat → Nat} (hv : CV I g c s d f sl ti CH O) : f_X0_ruled g 3 I = some (nI sl) := by
  unfold f_X0_ruled f_X0_ruled_19 e_as
  rw [r_within, if_pos (by decide), r_b1, if_neg (by decide), if_pos (by decide)]
  exact congrArg some hv.2.1.2.2.2.1
theorem T_plain (t : Nat) (ht : t < 600) : ST_plain (Rl t) (Rl (t + 1)) := by
  intro b o k w I L h
  have hx := Rl_hx h
  refine st_2 ?_
  unfold f_X7_plain
  refine wp_e1 t_part (wp_e1 (t_ahead7 hx) ?_)
  by_cases hv : tA (I 83 6) (if 0 ≤ w ∧ w ≤ 1 then 1 else 0) b o k = 0
  · obtain ⟨hw, B, Q, K, hB, hQ, h1, hk, rfl, rfl, rfl, c, s, d, f, sl, ti, CH, O, nx, p, fc, st, V⟩ := t_good h ht hv
    obtain ⟨hx6, _⟩ := tA_0 hv
    have V7 := VW_R7 (v := 0) V
    obtain ⟨v1, v2, v3, v4, v5, ⟨v6a, v6b, hp, ep⟩, ⟨v7a, v7b, v7⟩, v8, v9⟩ := id V7
    obtain ⟨x, x7, x8⟩ := r_partLV (kd := 0) (k := K) (j := K) (q := Q * 8 + B) V hk w
    have c9 := v1.1.2
    have hb : nx < c := by rw [← ep]; exact (v4 p hp).2
    have h115 : r_R7 I 0 11 5 = 0 := h.2.2.2.2.1.1
    have hst : f_X7_stateOf (nI B) (nI Q) = some (nI (Q * 8 + B)) := by
      unfold f_X7_stateOf
      rw [n8, nI_mul, nI_add]
    rw [hv]
    refine wp_e2 (r_refused 0 I) (wp_t rfl ?_)
    rw [v6a, v7a]
    refine wp_e1 (C_placeOf v2 c9 hp ep (by omega) (VW_n V7)) (wp_e1 hst ?_)
    refine wp_c3 (C_plainMean (kd := 0) (by decide) v2 v1 v9 (by decide) h115 h.2.2.2.2.1.2 (by omega) h1 hk (by omega) (by omega)) (fun r J M hJ => ?_)
    obtain ⟨j1, j2, j3, j4, j5⟩ := hJ
    have j1 : r = lN (LV s d f c sl ti 0 K p fc CH O K (Q * 8 + B)) := j1
    refine wp_e1 (C_unit j5 hk) ?_
    rw [j1]
    refine wp_e1 x7 (wp_some ?_)
    have sJ : sameL (r_R7 I 0) J := sameL_fr (fun a i l => live_11 l) (c_17_11 j2)
    have J6 : J 83 6 ≠ 0 := by rw [sJ 83 6 rfl]; exact hx6
    unfold f_X8_plain
    refine wp_c3 (M_toCome (kd := 0) (VW_same sJ V7) J6 hw hB hQ h1 hk (by decide) x8) (fun r2 J2 M2 h2 => wp_some ⟨h2.1, ?_⟩)
    refine Rl_fin (v := 0) (by decide) h sJ h2.2.1 ?_ (c_Z_SL h2.2.2.2 j4)
    exact h2.2.2.1.trans ((j2 11 5 (fun z => by cases z)).trans h115)
  · refine wp_e2 (r_refused _ I) ?_
    rw [r_b_n hv]
    refine wp_f (by decide) (wp_some ?_)
    unfold f_X8_plain
    exact wp_e3 (M_toCome_bad rfl hv) (wp_some ⟨rfl, Rl_mono (Nat.le_succ t) (Rl_R tA_4 h)⟩)
theorem T_any (t : Nat) (ht : t < 600) : ST_any (Rl t) (Rl (t + 1)) := by
  intro b o k w I L h
  have hx := Rl_hx h
  refine st_2 ?_
  unfold f_X7_any
  refine wp_e1 t_part (wp_e1 (t_ahead7 hx) ?_)
  by_cases hv : tA (I 83 6) (if 0 ≤ w ∧ w ≤ 1 then 1 else 0) b o k = 0
  · obtain ⟨hw, B, Q, K, hB, hQ, h1, hk, rfl, rfl, rfl, c, s, d, f, sl, ti, CH, O, nx, p, fc, st, V⟩ := t_good h ht hv
    obtain ⟨hx6, _⟩ := tA_0 hv
    have V7 := VW_R7 (v := 0) V
    obtain ⟨v1, v2, v3, v4, v5, ⟨v6a, v6b, hp, ep⟩, ⟨v7a, v7b, v7⟩, v8, v9⟩ := id V7
    obtain ⟨x, x7, x8⟩ := r_partLV (kd := 1) (k := K) (j := K) (q := Q * 8 + B) V hk w
    have c9 := v1.1.2
    have hb : nx < c := by rw [← ep]; exact (v4 p hp).2
    have h115 : r_R7 I 0 11 5 = 0 := h.2.2.2.2.1.1
    have hst : f_X7_stateOf (nI B) (nI Q) = some (nI (Q * 8 + B)) := by
      unfold f_X7_stateOf
      rw [n8, nI_mul, nI_add]
    rw [hv]
    refine wp_e2 (r_refused 0 I) (wp_t rfl ?_)
    rw [v6a, v7a]
    refine wp_e1 (C_placeOf v2 c9 hp ep (by omega) (VW_n V7)) (wp_e1 hst ?_)
    refine wp_c3 (C_odds (by decide) v2 v1 v9 h115 h.2.2.2.2.1.2 (by omega) h1 hk (by omega) (by omega)) (fun r J M hJ => ?_)
    obtain ⟨j1, j2, j2b, j3, j4, j5⟩ := hJ
    have j1 : r = lN (LV s d f c sl ti 1 K p fc CH O K (Q * 8 + B)) := j1
    refine wp_e1 (C_unit j5 hk) ?_
    rw [j1]
    refine wp_e1 x7 (wp_some ?_)
    have sJ : sameL (r_R7 I 0) J := sameL_fr (fun a i l => live_11 l) j2
    have J6 : J 83 6 ≠ 0 := by rw [sJ 83 6 rfl]; exact hx6
    unfold f_X8_any
    refine wp_c3 (M_toCome (kd := 1) (VW_same sJ V7) J6 hw hB hQ h1 hk (by decide) x8) (fun r2 J2 M2 h2 => wp_some ⟨h2.1, ?_⟩)
    refine Rl_fin (v := 0) (by decide) h sJ h2.2.1 ?_ (c_Z_SL h2.2.2.2 j4)
    exact h2.2.2.1.trans j2b
  · refine wp_e2 (r_refused _ I) ?_
    rw [r_b_n hv]
    refine wp_f (by decide) (wp_some ?_)
    unfold f_X8_any
    exact wp_e3 (M_toCome_bad rfl hv) (wp_some ⟨rfl, Rl_mono (Nat.le_succ t) (Rl_R tA_4 h)⟩)
theorem T_table (t : Nat) (ht : t < 600) : ST_table (Rl t) (Rl (t + 1)) := by
  intro b o k w I L h
  have hx := Rl_hx h
  refine st_2 ?_
  unfold f_X7_table
  refine wp_e1 t_part (wp_e1 (t_ahead7 hx) ?_)
  by_cases hv : tA (I 83 6) (if 0 ≤ w ∧ w ≤ 1 then 1 else 0) b o k = 0
  · obtain ⟨hw, B, Q, K, hB, hQ, h1, hk, rfl, rfl, rfl, c, s, d, f, sl, ti, CH, O, nx, p, fc, st, V⟩ := t_good h ht hv
    obtain ⟨hx6, _⟩ := tA_0 hv
    have V7 := VW_R7 (v := 0) V
    obtain ⟨v1, v2, v3, v4, v5, ⟨v6a, v6b, hp, ep⟩, ⟨v7a, v7b, v7⟩, v8, v9⟩ := id V7
    obtain ⟨x, x7, x8⟩ := r_partLV (kd := 3) (k := K) (j := K) (q := Q * 8 + B) V hk w
    have c9 := v1.1.2
    have hb : nx < c := by rw [← ep]; exact (v4 p hp).2
    have h115 : r_R7 I 0 11 5 = 0 := h.2.2.2.2.1.1
    have hst : f_X7_stateOf (nI B) (nI Q) = some (nI (Q * 8 + B)) := by
      unfold f_X7_stateOf
      rw [n8, nI_mul, nI_add]
    rw [hv]
    refine wp_e2 (r_refused 0 I) (wp_t rfl ?_)
    refine wp_c2 (C_layTable (fi := p) (fc := fc) (by decide) v2 v1 v9 h115 h.2.2.2.2.1.2 hk) (fun J M hJ => ?_)
    obtain ⟨j2, j3, j4, j5, j6⟩ := hJ
    refine wp_e1 hst (wp_e1 (C_tableAt (j6 K (by omega)) hk (by omega)) (wp_e1 (C_unit j5 hk) (wp_e1 x7 (wp_some ?_))))
    have sJ : sameL (r_R7 I 0) J := sameL_fr (fun a i l => live_11 l) (c_17_11 j2)
    have J6 : J 83 6 ≠ 0 := by rw [sJ 83 6 rfl]; exact hx6
    unfold f_X8_table
    refine wp_c3 (M_toCome (kd := 3) (VW_same sJ V7) J6 hw hB hQ h1 hk (by decide) x8) (fun r2 J2 M2 h2 => wp_some ⟨h2.1, ?_⟩)
    refine Rl_fin (v := 0) (by decide) h sJ h2.2.1 ?_ (c_Z_SL h2.2.2.2 j4)
    exact h2.2.2.1.trans ((j2 11 5 (fun z => by cases z)).trans h115)
  · refine wp_e2 (r_refused _ I) ?_
    rw [r_b_n hv]
    refine wp_f (by decide) (wp_some ?_)
    unfold f_X8_table
    exact wp_e3 (M_toCome_bad rfl hv) (wp_some ⟨rfl, Rl_mono (Nat.le_succ t) (Rl_R tA_4 h)⟩)
theorem T_wise (t : Nat) (ht : t < 600) : ST_wise (Rl t) (Rl (t + 1)) := by
  intro b o k w I L h
  have hx := Rl_hx h
  refine st_2 ?_
  unfold f_X7_wise
  refine wp_e1 t_part (wp_e1 (t_ahead7 hx) ?_)
  by_cases hv : tA (I 83 6) (if 0 ≤ w ∧ w ≤ 1 then 1 else 0) b o k = 0
  · obtain ⟨hw, B, Q, K, hB, hQ, h1, hk, rfl, rfl, rfl, c, s, d, f, sl, ti, CH, O, nx, p, fc, st, V⟩ := t_good h ht hv
    obtain ⟨hx6, _⟩ := tA_0 hv
    have V7 := VW_R7 (v := 0) V
    obtain ⟨v1, v2, v3, v4, v5, ⟨v6a, v6b, hp, ep⟩, ⟨v7a, v7b, v7⟩, v8, v9⟩ := id V7
    obtain ⟨x, x7, x8⟩ := r_partLV (kd := 2) (k := K) (j := K) (q := Q * 8 + B) V hk w
    have c9 := v1.1.2
    have hb : nx < c := by rw [← ep]; exact (v4 p hp).2
    have h115 : r_R7 I 0 11 5 = 0 := h.2.2.2.2.1.1
    have hst : f_X7_stateOf (nI B) (nI Q) = some (nI (Q * 8 + B)) := by
      unfold f_X7_stateOf
      rw [n8, nI_mul, nI_add]
    rw [hv]
    refine wp_e2 (r_refused 0 I) (wp_t rfl ?_)
    refine wp_e1 (C_ruled v2) ?_
    refine wp_c2 (C_lookAhead (O := O) (by decide) v2 v1 v1.2.2.1 v9 h115 h.2.2.2.2.1.2 v6a v7a hp ep (VW_n V7) h1 hk (by omega)) (fun J M hJ => ?_)
    obtain ⟨j2, j3, j4, j2b, j5, j6, j7⟩ := hJ
    have bd := C_bnd (k := K) (fi := p) (fc := fc) (j := K - 1) (f0 := fc) v1 v1.2.2.1 (VW_OR V7) (by omega) hb
    have lv : LV s d f c sl ti 2 K p fc CH O K (Q * 8 + B) = sV s d f (400 ^ (K - 1)) sl (LV s d f c sl ti 2 K p fc CH O (K - 1)) (sh1 ti CH nx fc) (Q * 8 + B) := by
      obtain ⟨k0, rfl⟩ : ∃ k0, K = k0 + 1 := ⟨K - 1, by omega⟩
      have e0 : (p + 0) % c = p := Nat.mod_eq_of_lt hp
      rw [LV_2 (by omega), Nat.sub_self, e0, ep]
      rfl
    rw [lv] at x7
    refine wp_e1 hst (wp_e1 (C_choiceIn j5 bd.1 (bd.2 _ (by omega)) j6 (by omega)) (wp_e1 (C_mbC j5 bd.1 j6 (by omega)) (wp_e1 (C_unit j7 hk) (wp_e1 x7 (wp_some ?_)))))
    have sJ : sameL (r_R7 I 0) J := sameL_fr (fun a i l => live_11 l) j2
    have J6 : J 83 6 ≠ 0 := by rw [sJ 83 6 rfl]; exact hx6
    unfold f_X8_wise
    refine wp_c3 (M_toCome (kd := 2) (VW_same sJ V7) J6 hw hB hQ h1 hk (by decide) x8) (fun r2 J2 M2 h2 => wp_some ⟨h2.1, ?_⟩)
    refine Rl_fin (v := 0) (by decide) h sJ h2.2.1 ?_ (c_Z_SL h2.2.2.2 j4)
    exact h2.2.2.1.trans j2b
  · refine wp_e2 (r_refused _ I) ?_
    rw [r_b_n hv]
    refine wp_f (by decide) (wp_some ?_)
    unfold f_X8_wise
    exact wp_e3 (M_toCome_bad rfl hv) (wp_some ⟨rfl, Rl_mono (Nat.le_succ t) (Rl_R tA_4 h)⟩)
