-- coming, chance, after, log
theorem C_behindB {I : e_I} {g c s d f sl ti b p fc st j : Nat} {CH : Nat → Nat → Nat} {O : Nat → Nat} (h : VW I g c s d f sl ti CH O b p fc st) (hj : j < 2 ^ 31) : f_X0_batterBehind g (nI j) I = some (nI (O ((p + j % c) % c))) := by
  obtain ⟨v1, v2, v3, v4, v5, ⟨v6a, v6b, hp, ep⟩, _⟩ := id h
  have c0 := v1.1.1
  have c9 := v1.1.2
  have hb : b < c := by rw [← ep]; exact (v4 p hp).2
  have hm : j % c < c := Nat.mod_lt _ c0
  unfold f_X0_batterBehind f_X0_batterBehind_30 e_as
  rw [v2.1, if_neg (show ¬ nI c ≤ 0 from nI_nle c0 (by omega)), v6a, C_placeOf v2 c9 hp ep (by omega) (VW_n h), r_b1, if_pos (show ¬ nI c = 0 from nI_ne0 c0 (by omega)), nI_rm c0 hj (by omega), nI_add, C_batterRound v2 c0 c9 (by omega), r_b1]
theorem T_coming (t : Nat) (ht : t < 600) : ST_coming (Rl t) (Rl (t + 1)) := by
  intro v I L h
  have hx := Rl_hx h
  have k7 : f_X7_coming v I = f_X7_coming_17 v (if I 83 6 ≠ 0 ∧ ¬ v < 0 then 0 else 1) I := by
    unfold f_X7_coming f_X7_coming_16
    rw [hx, r_b1]
    by_cases h1 : I 83 6 = 0
    · rw [if_pos h1, if_neg (fun n => n.1 h1)]
    · rw [if_neg h1]
      by_cases h2 : v < 0
      · rw [if_pos h2, if_neg (fun n => n.2 h2)]
      · rw [if_neg h2, if_pos ⟨h1, h2⟩]
  have k8 : ∀ s, f_X8_coming v (r_R7 I s) = f_X8_coming_17 v (if I 83 6 ≠ 0 ∧ ¬ v < 0 then 1 else 0) (r_R7 I s) := fun s => by
    have e : r_R7 I s 83 6 = I 83 6 := rfl
    unfold f_X8_coming f_X8_coming_16
    rw [e]
    by_cases h1 : I 83 6 = 0
    · rw [if_pos h1, if_neg (fun n => n.1 h1)]
    · rw [if_neg h1]
      by_cases h2 : v < 0
      · rw [if_pos h2, if_neg (fun n => n.2 h2)]
      · rw [if_neg h2, if_pos ⟨h1, h2⟩]
  by_cases hc : I 83 6 ≠ 0 ∧ ¬ v < 0
  · rw [if_pos hc] at k7 k8
    obtain ⟨c, s, d, f, sl, ti, CH, O, nx, p, fc, st, V⟩ := Rl_VW h hc.1 (by omega)
    obtain ⟨j, hj, rfl⟩ := nI_of hc.2
    have c0 := V.1.1.1
    have c9 := V.1.1.2
    have V7 := VW_R7 (v := 0) V
    have V8 := VW_R8 (v := 0) V7
    obtain ⟨u1, u2, u3, u4, u5, ⟨u6a, u6b, hp, ep⟩, _⟩ := id V8
    have hb : nx < c := by rw [← ep]; exact (u4 p hp).2
    have hm : j % c < c := Nat.mod_lt _ c0
    have hm2 : (p + j % c) % c < c := Nat.mod_lt _ c0
    refine good_1 (x := nI (O ((p + j % c) % c))) h ?_ ?_
    · rw [k7]
      unfold f_X7_coming_17 f_X7_coming_35
      rw [r_refused, r_b2, if_pos (by rfl), C_behindB V7 hj, r_b1]
    · have e72 : r_R8 (r_R7 I 0) 0 85 (72 : Int32).toNatClampNeg = nI nx := u6b
      have e0 : r_R8 (r_R7 I 0) 0 85 (0 : Int32).toNatClampNeg = nI c := u3.1
      rw [k8 0]
      unfold f_X8_coming_17 f_X8_coming_65 e_as
      rw [r_unless, r_b1, if_neg (by decide), r_isRefused, r_b2, if_pos (by rfl), e72, M_placeOf (O := O) (c := c) u4 c9 hp ep (by omega) (VW_n V8), r_b1, e0, if_pos (show ¬ nI c = 0 from nI_ne0 c0 (by omega)), if_pos (show ¬ nI c = 0 from nI_ne0 c0 (by omega)), nI_rm c0 hj (by omega), nI_add, nI_rm c0 (by omega) (by omega), n60, nI_add, if_pos (nI_ix (by omega) (by omega)), nI_clamp (by omega), (u4 _ hm2).1]
  · rw [if_neg hc] at k7 k8
    refine bad_1 (v := 1) h (by decide) ?_ ?_
    · rw [k7]
      unfold f_X7_coming_17
      rw [r_refused]
      rfl
    · rw [k8 1]
      unfold f_X8_coming_17
      rw [r_unless, r_b1, if_pos rfl, r_isRefused]
      rfl
theorem T_chance (t : Nat) (ht : t < 600) : ST_chance (Rl t) (Rl (t + 1)) := by
  intro b e f I L h
  obtain ⟨m1, m2, m3⟩ := r_many h.2.2.1
  have hb8 : ∀ s, f_X8_isBatter b (r_R7 I s) = some (if 0 ≤ b ∧ b < I 85 0 then 1 else 0) := fun s => r_isBatter (I := r_R7 I s) m2 m3
  have k7 : f_X7_chance b e f I = f_X7_chance_39 b e f (if (0 ≤ b ∧ b < I 85 0) ∧ (0 ≤ e ∧ e ≤ 5) then (if 0 ≤ f ∧ f ≤ 999 then 0 else 2) else 1) I := by
    unfold f_X7_chance f_X7_chance_19
    rw [r_batter_has, r_b1, m1]
    by_cases h1 : 0 ≤ b ∧ b < I 85 0
    · rw [if_pos h1, if_neg (by decide), t_hit, r_b1]
      by_cases h2 : 0 ≤ e ∧ e ≤ 5
      · rw [if_pos h2, if_pos (by decide), if_pos ⟨h1, h2⟩, r_within, r_b1]
        by_cases h3 : 0 ≤ f ∧ f ≤ 999
        · rw [if_pos h3, if_neg (by decide), if_pos h3]
        · rw [if_neg h3, if_pos rfl, if_neg h3]
      · rw [if_neg h2, if_neg (fun n => n rfl), if_neg (fun n => h2 n.2)]
    · rw [if_neg h1, if_pos rfl, if_neg (fun n => h1 n.1)]
  have k8 : ∀ s, f_X8_chance b e f (r_R7 I s) = f_X8_chance_23 b e f (if (0 ≤ b ∧ b < I 85 0) ∧ (0 ≤ e ∧ e ≤ 5) then 1 else 0) (r_R7 I s) := fun s => by
    unfold f_X8_chance f_X8_chance_22
    rw [hb8, r_b1]
    by_cases h1 : 0 ≤ b ∧ b < I 85 0
    · rw [if_pos h1, if_neg (by decide), r_in, r_b1]
      by_cases h2 : 0 ≤ e ∧ e ≤ 5
      · rw [if_pos h2, if_neg (by decide), if_pos ⟨h1, h2⟩]
      · rw [if_neg h2, if_pos rfl, if_neg (fun n => h2 n.2)]
    · rw [if_neg h1, if_pos rfl, if_neg (fun n => h1 n.1)]
  by_cases hc : (0 ≤ b ∧ b < I 85 0) ∧ (0 ≤ e ∧ e ≤ 5)
  · rw [if_pos hc] at k7 k8
    by_cases hf : 0 ≤ f ∧ f ≤ 999
    · rw [if_pos hf] at k7
      have hx := Rl_tx h hc.1
      obtain ⟨c, s, d, fl, sl, ti, CH, O, nx, p, fc, st, V⟩ := Rl_VW h hx (by omega)
      obtain ⟨B, hB2, rfl⟩ := nI_of (Int32.not_lt.mpr hc.1.1)
      obtain ⟨E, _, hE, rfl⟩ := nI_btw (m := 0) (n := 5) rfl rfl hc.2.1 hc.2.2
      obtain ⟨F, _, hF, rfl⟩ := nI_btw (m := 0) (n := 999) rfl rfl hf.1 hf.2
      have c9 := V.1.1.2
      have hB : B < c := by
        have e := V.2.2.1.1
        have k := hc.1.2
        rw [e] at k
        exact (nI_ltI hB2 (by omega)).mp k
      have V7 := VW_R7 (v := 0) V
      have V8 := VW_R8 (v := 0) V7
      refine good_1 (x := nI (sh1 ti CH B F E)) h ?_ ?_
      · rw [k7]
        unfold f_X7_chance_39
        rw [r_refused, r_b2, if_pos (by rfl), C_tiredChance V7.2.1 V.1 hB (by omega) (by omega), r_b1]
      · rw [k8 0]
        unfold f_X8_chance_23 f_X8_chance_51
        rw [r_in, if_pos hf, r_b1, r_unless_, if_neg (by decide), if_neg (by decide), r_b1, r_isRefused, r_b2, if_pos (by rfl), M_chance V8.2.2.1 V.1 hB (by omega) (by omega), r_b1]
    · rw [if_neg hf] at k7
      refine bad_1 (v := 2) h (by decide) ?_ ?_
      · rw [k7]
        unfold f_X7_chance_39
        rw [r_refused]
        rfl
      · rw [k8 2]
        unfold f_X8_chance_23
        rw [r_in, if_neg hf, r_b1, r_unless_, if_neg (by decide), if_pos rfl, r_b1, r_isRefused]
        rfl
  · rw [if_neg hc] at k7 k8
    refine bad_1 (v := 1) h (by decide) ?_ ?_
    · rw [k7]
      unfold f_X7_chance_39
      rw [r_refused]
      rfl
    · rw [k8 1]
      unfold f_X8_chance_23
      rw [r_in, r_b1, r_unless_, if_pos rfl, r_b1, r_isRefused]
      rfl
-- log
theorem nI_pred1 {v : Int32} {n : Nat} (hn : n < 1000) : v ≤ nI n - 1 ↔ v < nI n := by
  by_cases z : n = 0
  · subst z
    have e : (nI 0 - 1).toInt = -1 := by decide
    rw [Int32.le_iff_toInt_le, Int32.lt_iff_toInt_lt, e]
    have e2 : (nI 0).toInt = 0 := by decide
    rw [e2]
    omega
  · have e : nI n - 1 = nI (n - 1) := nI_sub (b := 1) (by omega)
    rw [e, Int32.le_iff_toInt_le, Int32.lt_iff_toInt_lt, nI_toInt (by omega), nI_toInt (by omega)]
    omega
theorem M_inRow {I : e_I} {v : Int32} {n : Nat} (h : I 85 75 = nI n) (hn : n ≤ 40) : f_X8_in v 0 (I 85 (75 : Int32).toNatClampNeg - 1) = some (if 0 ≤ v ∧ v < nI n then 1 else 0) := by
  have e : I 85 (75 : Int32).toNatClampNeg = nI n := h
  rw [e, r_in]
  by_cases c : 0 ≤ v ∧ v < nI n
  · rw [if_pos c, if_pos ⟨c.1, (nI_pred1 (by omega)).mpr c.2⟩]
  · rw [if_neg c, if_neg (fun q => c ⟨q.1, (nI_pred1 (by omega)).mp q.2⟩)]
theorem T_log (t : Nat) (ht : t < 600) : ST_log (Rl t) (Rl (t + 1)) := by
  intro i v I L h
  have bad : f_X7_log i v I = f_X7_log_26 i v 1 I → f_X8_log i v (r_R7 I 1) = f_X8_log_39 i v 0 (r_R7 I 1) → ∃ r I1 I2, f_X7_log i v I = some (r, I1) ∧ f_X8_log i v I1 = some (r, I2) ∧ Rl (t + 1) I2 L := fun k7 k8 => by
    refine bad_1 (v := 1) h (by decide) ?_ ?_
    · rw [k7]
      unfold f_X7_log_26
      rw [r_refused]
      rfl
    · rw [k8]
      unfold f_X8_log_39
      rw [r_unless, r_b1, if_pos rfl, r_isRefused]
      rfl
  by_cases hx : I 83 6 = 0
  · have h6 : I 23 6 = 0 := h.2.2.2.2.2.2.1 hx
    refine bad ?_ ?_
    · unfold f_X7_log f_X7_log_25
      rw [r_hasRow, h6, if_neg (fun n => absurd n.2 (Int32.not_lt.mpr n.1)), r_b1, if_pos rfl]
    · have e : r_R7 I 1 83 6 = 0 := hx
      unfold f_X8_log f_X8_log_38
      rw [if_pos e]
  · obtain ⟨n, w, W⟩ := Rl_LW h hx
    have e6 : ∀ s, ¬ r_R7 I s 83 6 = 0 := fun s => hx
    have W7 : ∀ s, LW (r_R7 I s) 23 n w := fun s => LW_R7 W
    by_cases hr : 0 ≤ i ∧ i < nI n
    · by_cases hv : 0 ≤ v ∧ v ≤ 5
      · obtain ⟨j, hj2, rfl⟩ := nI_of (Int32.not_lt.mpr hr.1)
        obtain ⟨X, _, hX, rfl⟩ := nI_btw (m := 0) (n := 5) rfl rfl hv.1 hv.2
        have n40 := W.2.2.1
        have hj : j < n := (nI_ltI hj2 (by omega)).mp hr.2
        have W8 : LW (r_R8 (r_R7 I 0) 0) 23 n w := LW_R8 (W7 0)
        have k8 : f_X8_log (nI j) (nI X) (r_R7 I 0) = some (lgM I n j X, r_R8 (r_R7 I 0) 0) := by
          unfold f_X8_log
          rw [if_neg (e6 0), M_inRow (W7 0).2.1 n40, if_pos hr, r_b1, if_neg (by decide), r_in, if_pos hv, r_b1, if_neg (by decide)]
          unfold f_X8_log_39 f_X8_log_58
          rw [r_unless, r_b1, if_neg (by decide), r_isRefused, r_b2, if_pos (by rfl), M_logged W8 hj (by omega), r_b1]
          rfl
        have k7 : ∀ r, (if nI X = 0 then e_b1 (f_X0_noted 23 (nI j) 0 (r_R7 I 0)) (fun (r_5 : Int32) => some (r_5, r_R7 I 0)) else if nI X = 1 then e_b1 (f_X0_noted 23 (nI j) 1 (r_R7 I 0)) (fun (r_7 : Int32) => some (r_7, r_R7 I 0)) else if nI X = 2 then e_b1 (f_X0_noted 23 (nI j) 2 (r_R7 I 0)) (fun (r_9 : Int32) => some (r_9, r_R7 I 0)) else if nI X = 3 then e_b1 (f_X0_noted 23 (nI j) 3 (r_R7 I 0)) (fun (r_11 : Int32) => some (r_11, r_R7 I 0)) else if nI X = 4 then e_b1 (f_X0_noted 23 (nI j) 4 (r_R7 I 0)) (fun (r_13 : Int32) => e_b1 (f_X7_basesOf r_13) (fun (r_14 : Int32) => some (r_14, r_R7 I 0))) else e_b1 (f_X0_noted 23 (nI j) 4 (r_R7 I 0)) (fun (r_15 : Int32) => e_b1 (f_X7_outsOf r_15) (fun (r_16 : Int32) => some (r_16, r_R7 I 0)))) = some (r, r_R7 I 0) → f_X7_log (nI j) (nI X) I = some (r, r_R7 I 0) := fun r e => by
          unfold f_X7_log
          rw [r_hasRow, W.1, if_pos hr, r_b1, if_neg (by decide), r_within, if_pos hv, r_b1, if_neg (by decide)]
          unfold f_X7_log_26
          rw [r_refused, r_b2, if_pos (by rfl)]
          exact e
        have nt : ∀ k, k < 6 → f_X0_noted 23 (nI j) (nI k) (r_R7 I 0) = some (lgC I 23 w j k) := fun k hk => C_noted (W7 0) hj hk
        obtain ⟨a0, a1, a2, a3, a4, a5, a6, a7, a8, _⟩ := W.2.2.2.2.2 j hj
        have bo := r_bo a4 a5 a6 a7
        rw [← a8] at bo
        have cX : X = 0 ∨ X = 1 ∨ X = 2 ∨ X = 3 ∨ X = 4 ∨ X = 5 := by omega
        rcases cX with rfl | rfl | rfl | rfl | rfl | rfl
        · refine good_1 h (k7 _ ?_) k8
          rw [if_pos (by decide), show f_X0_noted 23 (nI j) 0 (r_R7 I 0) = _ from nt 0 (by decide), r_b1, lg_eq W hj (by decide)]
        · refine good_1 h (k7 _ ?_) k8
          rw [if_neg (by decide), if_pos (by decide), show f_X0_noted 23 (nI j) 1 (r_R7 I 0) = _ from nt 1 (by decide), r_b1, lg_eq W hj (by decide)]
        · refine good_1 h (k7 _ ?_) k8
          rw [if_neg (by decide), if_neg (by decide), if_pos (by decide), show f_X0_noted 23 (nI j) 2 (r_R7 I 0) = _ from nt 2 (by decide), r_b1, lg_eq W hj (by decide)]
        · refine good_1 h (k7 _ ?_) k8
          rw [if_neg (by decide), if_neg (by decide), if_neg (by decide), if_pos (by decide), show f_X0_noted 23 (nI j) 3 (r_R7 I 0) = _ from nt 3 (by decide), r_b1, lg_eq W hj (by decide)]
        · refine good_1 h (k7 _ ?_) k8
          unfold f_X7_basesOf
          rw [if_neg (by decide), if_neg (by decide), if_neg (by decide), if_neg (by decide), if_pos (by decide), show f_X0_noted 23 (nI j) 4 (r_R7 I 0) = _ from nt 4 (by decide), r_b1, r_b1]
          exact congrArg (fun z => some (z, r_R7 I 0)) bo.1
        · refine good_1 h (k7 _ ?_) k8
          unfold f_X7_outsOf
          rw [if_neg (by decide), if_neg (by decide), if_neg (by decide), if_neg (by decide), if_neg (by decide), show f_X0_noted 23 (nI j) 4 (r_R7 I 0) = _ from nt 4 (by decide), r_b1, r_b1]
          exact congrArg (fun z => some (z, r_R7 I 0)) bo.2
      · refine bad ?_ ?_
        · unfold f_X7_log f_X7_log_25
          rw [r_hasRow, W.1, if_pos hr, r_b1, if_neg (by decide), r_within, if_neg hv, r_b1, if_pos rfl]
        · unfold f_X8_log f_X8_log_38
          rw [if_neg (e6 1), M_inRow (W7 1).2.1 W.2.2.1, if_pos hr, r_b1, if_neg (by decide), r_in, if_neg hv, r_b1, if_pos rfl]
    · refine bad ?_ ?_
      · unfold f_X7_log f_X7_log_25
        rw [r_hasRow, W.1, if_neg hr, r_b1, if_pos rfl]
      · unfold f_X8_log f_X8_log_38
        rw [if_neg (e6 1), M_inRow (W7 1).2.1 W.2.2.1, if_neg hr, r_b1, if_pos rfl]
-- after
theorem m_bo_all : ∀ o, o < 4 → ∀ b, b < 8 → (o = 3 → b = 0) → nI (if o = 3 then 24 else 8 * o + b) &&& 7 = nI b ∧ nI (if o = 3 then 24 else 8 * o + b) >>> (3 &&& 31) = nI o := by decide +kernel
theorem T_after (t : Nat) (ht : t < 600) : ST_after (Rl t) (Rl (t + 1)) := by
  intro b o e v I L h
  have hx := Rl_hx h
  -- what is refused alike
  have gen : ∀ x, x ≠ 0 → x ≠ 4 → f_X7_troubleOfAfter b o e v I = some x → f_X8_after b o e v (r_R7 I x) = f_X8_after_67 b o e v x (r_R7 I x) → ∃ r I1 I2, f_X7_after b o e v I = some (r, I1) ∧ f_X8_after b o e v I1 = some (r, I2) ∧ Rl (t + 1) I2 L := fun x h0 h4 e7 e8 => by
    refine bad_1 (v := x) h h4 ?_ ?_
    · unfold f_X7_after
      rw [e7, r_b1, r_refused, r_b2, r_b_n h0]
      rfl
    · rw [e8]
      unfold f_X8_after_67
      rw [r_isRefused, r_b2, r_b_n h0]
      rfl
  have e32 : ∀ J : e_I, f_X8_after_32 b o e v 0 J = f_X8_after_67 b o e v 1 J := fun J => by
    unfold f_X8_after_32
    rw [t_state8, r_b1, r_unless_, if_pos rfl, r_b1, if_neg (by decide)]
  by_cases hx0 : I 83 6 = 0
  · refine gen 1 (by decide) (by decide) ?_ ?_
    · unfold f_X7_troubleOfAfter f_X7_troubleOfAfter_27
      rw [hx, r_b1, if_pos hx0]
    · unfold f_X8_after f_X8_after_31
      rw [if_pos (show r_R7 I 1 83 6 = 0 from hx0), e32]
  · by_cases he : 0 ≤ e ∧ e ≤ 8
    · by_cases hv : 0 ≤ v ∧ v ≤ 2
      · by_cases hb : 0 ≤ b ∧ b ≤ 7
        · by_cases ho : 0 ≤ o ∧ o ≤ 2
          · obtain ⟨c, s, d, f, sl, ti, CH, O, nx, p, fc, st, V⟩ := Rl_VW h hx0 (by omega)
            obtain ⟨B, _, hB, rfl⟩ := nI_btw (m := 0) (n := 7) rfl rfl hb.1 hb.2
            obtain ⟨Q, _, hQ, rfl⟩ := nI_btw (m := 0) (n := 2) rfl rfl ho.1 ho.2
            obtain ⟨E, _, hE, rfl⟩ := nI_btw (m := 0) (n := 8) rfl rfl he.1 he.2
            obtain ⟨X, _, hX, rfl⟩ := nI_btw (m := 0) (n := 2) rfl rfl hv.1 hv.2
            have hst : f_X7_stateOf (nI B) (nI Q) = some (nI (Q * 8 + B)) := by
              unfold f_X7_stateOf
              rw [n8, nI_mul, nI_add]
            have eB : (Q * 8 + B) % 8 = B := by omega
            have eQ : (Q * 8 + B) / 8 = Q := by omega
            have vr := V.1.2.1
            have vT := V.2.2.2.2.2.2.2.2
            have w7 : f_X7_troubleOfAfter (nI B) (nI Q) (nI E) (nI X) I = some (if mC E (Q * 8 + B) then 0 else 5) := by
              unfold f_X7_troubleOfAfter f_X7_troubleOfAfter_63
              rw [hx, r_b1, if_neg hx0, r_within, if_pos he, r_b1, if_neg (by decide), r_within, if_pos hv, r_b1, if_pos (by decide), t_state7, if_pos hb, if_pos ho, r_b1, if_pos (by decide), hst, r_b1, c_can_at vr vT (by omega) (by omega), r_b1]
              by_cases q : mC E (Q * 8 + B) = true
              · rw [if_pos q, if_neg (by decide), if_pos q]
              · rw [if_neg q, if_pos rfl, if_neg q]
            have cb := m_canBe_all E (by omega) (Q * 8 + B) (by omega)
            rw [eB, eQ] at cb
            have w8 : ∀ s, f_X8_after (nI B) (nI Q) (nI E) (nI X) (r_R7 I s) = f_X8_after_67 (nI B) (nI Q) (nI E) (nI X) (if mC E (Q * 8 + B) then 0 else 5) (r_R7 I s) := fun s => by
              unfold f_X8_after
              rw [if_neg (show ¬ r_R7 I s 83 6 = 0 from hx0), r_in, if_pos he, r_b1, if_neg (by decide), r_in, if_pos hv, r_b1, if_neg (by decide)]
              unfold f_X8_after_32
              rw [t_state8, if_pos hb, if_pos ho, r_b1, r_unless_, if_neg (by decide), if_neg (by decide), r_b1, if_pos rfl, cb, r_b1]
              by_cases q : mC E (Q * 8 + B) = true
              · rw [if_pos q, if_neg (by decide), if_pos q]
              · rw [if_neg q, if_pos rfl, if_neg q]
            by_cases q : mC E (Q * 8 + B) = true
            · rw [if_pos q] at w7 w8
              have V7 := VW_R7 (v := 0) V
              have V8 := VW_R8 (v := 0) V7
              have vT7 := V7.2.2.2.2.2.2.2.2
              have bh := c_behind (e := E) vT7 (by omega) (show Q * 8 + B < 24 by omega)
              have rn := c_runsBy (e := E) vT7 (by omega) (show Q * 8 + B < 24 by omega)
              rw [if_pos q] at bh rn
              have cm := m_view (e := E) (st := Q * 8 + B) vr V8.2.2.1.2.1.1 V8.2.2.1.2.1.2.1 V8.2.2.1.2.1.2.2 (by omega) (by omega)
              rw [eB, eQ] at cm
              obtain ⟨y1, y2, y3, y4, y5, y6⟩ := m_f1 (e := E) (st := Q * 8 + B) vr (by omega) (by omega)
              have mb := m_bo_all (mO E (Q * 8 + B)) (by omega) (mA s d f E (Q * 8 + B)) y3 (fun z => by unfold mA; rw [if_pos z])
              have mb1 : nI (mB s d f E (Q * 8 + B)) &&& 7 = nI (mA s d f E (Q * 8 + B)) := mb.1
              have mb2 : nI (mB s d f E (Q * 8 + B)) >>> (3 &&& 31) = nI (mO E (Q * 8 + B)) := mb.2
              have fin : ∀ x, f_X7_after (nI B) (nI Q) (nI E) (nI X) I = some (x, r_R7 I 0) → f_X8_after (nI B) (nI Q) (nI E) (nI X) (r_R7 I 0) = some (x, m_w (r_R8 (r_R7 I 0) 0) (nI (mA s d f E (Q * 8 + B))) (nI (mO E (Q * 8 + B))) (nI (mR s d f E (Q * 8 + B)))) → ∃ r I1 I2, f_X7_after (nI B) (nI Q) (nI E) (nI X) I = some (r, I1) ∧ f_X8_after (nI B) (nI Q) (nI E) (nI X) I1 = some (r, I2) ∧ Rl (t + 1) I2 L := fun x e1 e2 => by
                refine ⟨x, _, _, e1, e2, Rl_fin (v := 0) (by decide) h sameL_rfl (sameL_fr (fun a i l => live_S4 l) (fr_mono (fun a i z => Or.inl ⟨z.1, Or.inl z.2⟩) m_wfr)) ?_ h.2.2.2.2.1.2⟩
                rw [m_wa (by decide)]
                exact h.2.2.2.2.1.1
              have g7 : ∀ r, (if nI X = 0 then e_b1 (f_X2_behind (nI E) (nI (Q * 8 + B)) (r_R7 I 0)) (fun (r_7 : Int32) => e_b1 (f_X7_basesOf r_7) (fun (r_8 : Int32) => some (r_8, r_R7 I 0))) else if nI X = 1 then e_b1 (f_X2_behind (nI E) (nI (Q * 8 + B)) (r_R7 I 0)) (fun (r_10 : Int32) => e_b1 (f_X7_outsOf r_10) (fun (r_11 : Int32) => some (r_11, r_R7 I 0))) else e_b1 (f_X2_runsBy (nI E) (nI (Q * 8 + B)) (r_R7 I 0)) (fun (r_12 : Int32) => some (r_12, r_R7 I 0))) = some (r, r_R7 I 0) → f_X7_after (nI B) (nI Q) (nI E) (nI X) I = some (r, r_R7 I 0) := fun r ee => by
                unfold f_X7_after
                rw [w7, r_b1, r_refused, r_b2, if_pos (by rfl), hst, r_b1]
                exact ee
              have cX : X = 0 ∨ X = 1 ∨ X = 2 := by omega
              rcases cX with rfl | rfl | rfl
              · refine fin (nI (mA s d f E (Q * 8 + B))) (g7 _ ?_) ?_
                · unfold f_X7_basesOf
                  rw [if_pos (by decide), bh, r_b1, r_b1, mb1]
                · rw [w8 0]
                  unfold f_X8_after_67 f_X8_after_111
                  rw [r_isRefused, r_b2, if_pos (by rfl), cm, r_b1, if_neg (by decide), m_w19]
              · refine fin (nI (mO E (Q * 8 + B))) (g7 _ ?_) ?_
                · unfold f_X7_outsOf
                  rw [if_neg (by decide), if_pos (by decide), bh, r_b1, r_b1, mb2]
                · rw [w8 0]
                  unfold f_X8_after_67 f_X8_after_111
                  rw [r_isRefused, r_b2, if_pos (by rfl), cm, r_b1, if_pos (by decide), if_neg (by decide), m_w20]
              · refine fin (nI (mR s d f E (Q * 8 + B))) (g7 _ ?_) ?_
                · rw [if_neg (by decide), if_neg (by decide), rn, r_b1]
                · rw [w8 0]
                  unfold f_X8_after_67 f_X8_after_111
                  rw [r_isRefused, r_b2, if_pos (by rfl), cm, r_b1, if_pos (by decide), if_pos (by decide), m_w21]
            · rw [if_neg q] at w7 w8
              exact gen 5 (by decide) (by decide) w7 (w8 5)
          · refine gen 2 (by decide) (by decide) ?_ ?_
            · unfold f_X7_troubleOfAfter
              rw [hx, r_b1, if_neg hx0, r_within, if_pos he, r_b1, if_neg (by decide), r_within, if_pos hv, r_b1, if_pos (by decide), t_state7, if_pos hb, if_neg ho, r_b1, if_neg (fun n => n rfl)]
            · unfold f_X8_after
              rw [if_neg (show ¬ r_R7 I 2 83 6 = 0 from hx0), r_in, if_pos he, r_b1, if_neg (by decide), r_in, if_pos hv, r_b1, if_neg (by decide)]
              unfold f_X8_after_32
              rw [t_state8, if_pos hb, if_neg ho, r_b1, r_unless_, if_neg (by decide), if_pos rfl, r_b1, if_neg (by decide)]
        · refine gen 2 (by decide) (by decide) ?_ ?_
          · unfold f_X7_troubleOfAfter
            rw [hx, r_b1, if_neg hx0, r_within, if_pos he, r_b1, if_neg (by decide), r_within, if_pos hv, r_b1, if_pos (by decide), t_state7, if_neg hb, r_b1, if_neg (fun n => n rfl)]
          · unfold f_X8_after
            rw [if_neg (show ¬ r_R7 I 2 83 6 = 0 from hx0), r_in, if_pos he, r_b1, if_neg (by decide), r_in, if_pos hv, r_b1, if_neg (by decide)]
            unfold f_X8_after_32
            rw [t_state8, if_neg hb, r_b1, r_unless_, if_neg (by decide), if_pos rfl, r_b1, if_neg (by decide)]
      · refine gen 1 (by decide) (by decide) ?_ ?_
        · unfold f_X7_troubleOfAfter f_X7_troubleOfAfter_27
          rw [hx, r_b1, if_neg hx0, r_within, if_pos he, r_b1, if_neg (by decide), r_within, if_neg hv, r_b1, if_neg (fun n => n rfl)]
        · unfold f_X8_after f_X8_after_31
          rw [if_neg (show ¬ r_R7 I 1 83 6 = 0 from hx0), r_in, if_pos he, r_b1, if_neg (by decide), r_in, if_neg hv, r_b1, if_pos rfl, e32]
    · refine gen 1 (by decide) (by decide) ?_ ?_
      · unfold f_X7_troubleOfAfter f_X7_troubleOfAfter_27
        rw [hx, r_b1, if_neg hx0, r_within, if_neg he, r_b1, if_pos rfl]
      · unfold f_X8_after f_X8_after_31
        rw [if_neg (show ¬ r_R7 I 1 83 6 = 0 from hx0), r_in, if_neg he, r_b1, if_pos rfl, e32]
