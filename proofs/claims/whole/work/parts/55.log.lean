-- THE LOG
def LW (I : e_I) (g n w : Nat) : Prop := I g 6 = nI n ∧ I 85 75 = nI n ∧ n ≤ 40 ∧ I g 7 = nI w ∧ w ≤ 39 ∧ ∀ j, j < n → r_note (I (g + 4)) (I 85) ((w + 40 - j) % 40) (76 + 8 * (n - 1 - j))
theorem LW_of {I : e_I} {g t : Nat} (h : r_GR (I g) (I (g + 1)) (I (g + 2)) (I (g + 3)) (I (g + 4)) (I 85) 0 t) : ∃ n w, LW I g n w := by
  obtain ⟨_, _, _, _, _, _, _, _, _, _, _, _, ⟨s1, s2, s3, s4, s5⟩, hl⟩ := h
  simp only [Nat.zero_add] at *
  obtain ⟨a, a'⟩ := nI_rn (n := 40) s2 s3 rfl
  obtain ⟨b, b'⟩ := nI_rn (n := 39) s4 s5 rfl
  refine ⟨r_n (I g 6), r_n (I g 7), a, by rw [← s1]; exact a, a', b, b', hl⟩
theorem Rl_LW {t : Nat} {I : e_I} {L : e_L} (h : Rl t I L) (hx : I 83 6 ≠ 0) : ∃ n w, LW I 23 n w := by
  rcases h.2.2.1 with h3 | h3
  · exact absurd h3.1 hx
  · exact LW_of h3.2
theorem LW_same {I J : e_I} {n w : Nat} (hf : sameL I J) (h : LW I 23 n w) : LW J 23 n w := by
  obtain ⟨h1, h2, h3, h4, h5, h6⟩ := h
  have c27 : J 27 = I 27 := funext fun i => hf 27 i rfl
  have c85 : J 85 = I 85 := funext fun i => hf 85 i rfl
  exact ⟨by rw [hf 23 6 rfl]; exact h1, by rw [c85]; exact h2, h3, by rw [hf 23 7 rfl]; exact h4, h5, fun j hj => by show r_note (J 27) _ _ _; rw [c27, c85]; exact h6 j hj⟩
theorem LW_R7 {I : e_I} {v : Int32} {n w : Nat} (h : LW I 23 n w) : LW (r_R7 I v) 23 n w := h
theorem LW_R8 {I : e_I} {v : Int32} {n w : Nat} (h : LW I 23 n w) : LW (r_R8 I v) 23 n w := h
theorem C_noted {I : e_I} {g n w j k : Nat} (h : LW I g n w) (hj : j < n) (hk : k < 6) : f_X0_noted g (nI j) (nI k) I = some (I (g + 4) (((w + 40 - j) % 40) * 6 + k)) := by
  obtain ⟨h1, h2, h3, h4, h5, h6⟩ := h
  have fin : ∀ s, s < 40 → f_X0_noted_45 g I (nI k) (nI s) = some (I (g + 4) (s * 6 + k)) := fun s hs => by
    have ix : nI s * 6 + nI k = nI (s * 6 + k) := by rw [n6, nI_mul, nI_add]
    unfold f_X0_noted_45 e_as
    rw [ix, if_pos (nI_ix (by omega) (by omega)), nI_clamp (by omega)]
  unfold f_X0_noted
  rw [r_hasRow, h1, if_pos (show (0 : Int32) ≤ nI j ∧ nI j < nI n from ⟨nI_pos' (by omega), nI_lt hj (by omega)⟩), r_b1, if_neg (by decide), r_within, if_pos (show (0 : Int32) ≤ nI k ∧ nI k ≤ 5 from ⟨nI_pos' (by omega), nI_le (b := 5) (by omega) (by decide)⟩), r_b1, if_pos (by decide), h4]
  by_cases l : w < j
  · have e : nI w - nI j + 40 = nI (w + 40 - j) := by
      have a : nI w - nI j + nI 40 = nI w + nI 40 - nI j := by
        rw [Int32.sub_eq_add_neg, Int32.sub_eq_add_neg]
        ac_rfl
      rw [n40, a, nI_add, nI_sub (by omega)]
    rw [if_pos (nI_lt l (by omega)), e, fin _ (by omega), Nat.mod_eq_of_lt (by omega)]
  · rw [if_neg (nI_nlt (by omega) (by omega)), nI_sub (by omega), fin _ (by omega)]
    congr 3
    omega
theorem M_logged {I : e_I} {g n w j k : Nat} (h : LW I g n w) (hj : j < n) (hk : k < 8) : f_X8_logged (nI j) (nI k) I = some (I 85 (76 + 8 * (n - 1 - j) + k)) := by
  obtain ⟨h1, h2, h3, h4, h5, h6⟩ := h
  have e : (76 : Int32) + (8 : Int32) * (nI n - 1 - nI j) + nI k = nI (76 + 8 * (n - 1 - j) + k) := by
    rw [n1, nI_sub (show 1 ≤ n by omega), nI_sub (by omega), n8, nI_mul, n76, nI_add, nI_add]
  have e2 : I 85 (75 : Int32).toNatClampNeg = nI n := h2
  unfold f_X8_logged e_as
  rw [e2, e, if_pos (nI_ix (by omega) (by omega)), nI_clamp (by omega)]
-- sums over the log
def rs (x : Nat → Int32) : Nat → Int32
  | 0 => 0
  | i + 1 => rs x i + x i
def lgC (I : e_I) (g w i k : Nat) : Int32 := I (g + 4) (((w + 40 - i) % 40) * 6 + k)
def lgM (I : e_I) (n i k : Nat) : Int32 := I 85 (76 + 8 * (n - 1 - i) + k)
theorem lg_eq {I : e_I} {g n w i k : Nat} (h : LW I g n w) (hi : i < n) (hk : k < 4) : lgC I g w i k = lgM I n i k := by
  have a := h.2.2.2.2.2 i hi
  obtain ⟨a0, a1, a2, a3, _⟩ := a
  have c : k = 0 ∨ k = 1 ∨ k = 2 ∨ k = 3 := by omega
  rcases c with rfl | rfl | rfl | rfl
  · exact a0
  · exact a1
  · exact a2
  · exact a3
theorem C_rowsOf {I : e_I} {g n w : Nat} {b : Int32} (h : LW I g n w) : f_X0_rowsOf g b I = some (rs (fun i => if lgC I g w i 0 ≠ b then 0 else 1) n) := by
  have key : ∀ m i, i ≤ n → n - i < m → f_X0_rowsOf_4 g I b (fun (v2_1 : Int32) => some v2_1) m (rs (fun i => if lgC I g w i 0 ≠ b then 0 else 1) i) (nI i) = some (rs (fun i => if lgC I g w i 0 ≠ b then 0 else 1) n) := by
    intro m
    induction m with
    | zero => intro i _ h; omega
    | succ m ih =>
      intro i hi hm
      have n40 := h.2.2.1
      rw [f_X0_rowsOf_4, h.1]
      by_cases q : i = n
      · subst q
        rw [if_pos (Int32.le_refl _)]
      · rw [if_neg (c_ge (by omega) (by omega)), show f_X0_noted g (nI i) 0 I = some (lgC I g w i 0) from C_noted (k := 0) h (by omega) (by decide), r_b1]
        have nx := ih (i + 1) (by omega) (by omega)
        unfold f_X0_rowsOf_28
        by_cases z : lgC I g w i 0 ≠ b
        · rw [if_pos z, e_lt, e_lt, nI_1 i]
          have e : rs (fun i => if lgC I g w i 0 ≠ b then 0 else 1) (i + 1) = rs (fun i => if lgC I g w i 0 ≠ b then 0 else 1) i + 0 := by
            show _ + (if lgC I g w i 0 ≠ b then (0 : Int32) else 1) = _
            rw [if_pos z]
          rw [← e]
          exact nx
        · rw [if_neg z, e_lt, e_lt, nI_1 i]
          have e : rs (fun i => if lgC I g w i 0 ≠ b then 0 else 1) (i + 1) = rs (fun i => if lgC I g w i 0 ≠ b then 0 else 1) i + 1 := by
            show _ + (if lgC I g w i 0 ≠ b then (0 : Int32) else 1) = _
            rw [if_neg z]
          rw [← e]
          exact nx
  exact key e_FU 0 (by omega) (wp_FU (by have := h.2.2.1; omega))
theorem C_runsOf {I : e_I} {g n w : Nat} {b : Int32} (h : LW I g n w) : f_X0_runsOf g b I = some (rs (fun i => if lgC I g w i 0 ≠ b then 0 else lgC I g w i 2) n) := by
  have key : ∀ m i, i ≤ n → n - i < m → f_X0_runsOf_4 g I b (fun (v2_1 : Int32) => some v2_1) m (rs (fun i => if lgC I g w i 0 ≠ b then 0 else lgC I g w i 2) i) (nI i) = some (rs (fun i => if lgC I g w i 0 ≠ b then 0 else lgC I g w i 2) n) := by
    intro m
    induction m with
    | zero => intro i _ h; omega
    | succ m ih =>
      intro i hi hm
      have n40 := h.2.2.1
      rw [f_X0_runsOf_4, h.1]
      by_cases q : i = n
      · subst q
        rw [if_pos (Int32.le_refl _)]
      · rw [if_neg (c_ge (by omega) (by omega)), show f_X0_noted g (nI i) 0 I = some (lgC I g w i 0) from C_noted (k := 0) h (by omega) (by decide), r_b1]
        have nx := ih (i + 1) (by omega) (by omega)
        unfold f_X0_runsOf_33
        by_cases z : lgC I g w i 0 ≠ b
        · rw [if_pos z, e_lt, e_lt, nI_1 i]
          have e : rs (fun i => if lgC I g w i 0 ≠ b then 0 else lgC I g w i 2) (i + 1) = rs (fun i => if lgC I g w i 0 ≠ b then 0 else lgC I g w i 2) i + 0 := by
            show _ + (if lgC I g w i 0 ≠ b then (0 : Int32) else lgC I g w i 2) = _
            rw [if_pos z]
          rw [← e]
          exact nx
        · rw [if_neg z, show f_X0_noted g (nI i) 2 I = some (lgC I g w i 2) from C_noted (k := 2) h (by omega) (by decide), r_b1, e_lt, e_lt, nI_1 i]
          have e : rs (fun i => if lgC I g w i 0 ≠ b then 0 else lgC I g w i 2) (i + 1) = rs (fun i => if lgC I g w i 0 ≠ b then 0 else lgC I g w i 2) i + lgC I g w i 2 := by
            show _ + (if lgC I g w i 0 ≠ b then (0 : Int32) else lgC I g w i 2) = _
            rw [if_neg z]
          rw [← e]
          exact nx
  exact key e_FU 0 (by omega) (wp_FU (by have := h.2.2.1; omega))
theorem M_sumOf {I : e_I} {g n w : Nat} {b v : Int32} (h : LW I g n w) : f_X8_batter_73 b v (fun (v3_7 : Int32) (I_8 : e_I) => some (v3_7, I_8)) e_FU 0 0 I = some (rs (fun i => if lgM I n i 0 = b then (if v ≠ 7 then lgM I n i 2 else 1) else 0) n, I) := by
  have key : ∀ m i, i ≤ n → n - i < m → f_X8_batter_73 b v (fun (v3_7 : Int32) (I_8 : e_I) => some (v3_7, I_8)) m (rs (fun i => if lgM I n i 0 = b then (if v ≠ 7 then lgM I n i 2 else 1) else 0) i) (nI i) I = some (rs (fun i => if lgM I n i 0 = b then (if v ≠ 7 then lgM I n i 2 else 1) else 0) n, I) := by
    intro m
    induction m with
    | zero => intro i _ h; omega
    | succ m ih =>
      intro i hi hm
      have n40 := h.2.2.1
      have e75 : I 85 (75 : Int32).toNatClampNeg = nI n := h.2.1
      rw [f_X8_batter_73, e75]
      by_cases q : i = n
      · subst q
        rw [if_pos (Int32.le_refl _)]
      · rw [if_neg (c_ge (by omega) (by omega)), show f_X8_logged (nI i) 0 I = some (lgM I n i 0) from M_logged (k := 0) h (by omega) (by decide), r_b1]
        have nx := ih (i + 1) (by omega) (by omega)
        have st : rs (fun i => if lgM I n i 0 = b then (if v ≠ 7 then lgM I n i 2 else 1) else 0) (i + 1) = rs (fun i => if lgM I n i 0 = b then (if v ≠ 7 then lgM I n i 2 else 1) else 0) i + (if lgM I n i 0 = b then (if v ≠ 7 then lgM I n i 2 else 1) else 0) := rfl
        unfold f_X8_batter_118
        by_cases z : lgM I n i 0 = b
        · rw [if_pos z] at st
          rw [if_pos z]
          by_cases y : v ≠ 7
          · rw [if_pos y] at st
            rw [if_pos y, show f_X8_logged (nI i) 2 I = some (lgM I n i 2) from M_logged (k := 2) h (by omega) (by decide), r_b1, e_lt, e_lt, nI_1 i, ← st]
            exact nx
          · rw [if_neg y] at st
            rw [if_neg y, e_lt, e_lt, nI_1 i, ← st]
            exact nx
        · rw [if_neg z] at st
          rw [if_neg z, e_lt, e_lt, nI_1 i, ← st]
          exact nx
  exact key e_FU 0 (by omega) (wp_FU (by have := h.2.2.1; omega))
theorem rs_congr {x y : Nat → Int32} : ∀ n, (∀ i, i < n → x i = y i) → rs x n = rs y n
  | 0, _ => rfl
  | n + 1, h => by
    show rs x n + x n = rs y n + y n
    rw [rs_congr n (fun i hi => h i (by omega)), h n (by omega)]
-- batter
theorem VW_place {I : e_I} {g c s d f sl ti b p fc st : Nat} {CH : Nat → Nat → Nat} {O : Nat → Nat} (h : VW I g c s d f sl ti CH O b p fc st) {x : Nat} (hx : x < c) : ∃ q, q < c ∧ O q = x ∧ ∀ i, i < q → O i ≠ x := by
  obtain ⟨q, hq, e⟩ := pig c O (VW_OR h) h.2.2.2.2.1 x hx
  refine ⟨q, hq, e, fun i hi e2 => ?_⟩
  have := h.2.2.2.2.1 i q (by omega) hq (by rw [e, e2])
  omega
theorem Rl_tx {t : Nat} {I : e_I} {L : e_L} {v : Int32} (h : Rl t I L) (hb : 0 ≤ v ∧ v < I 85 0) : I 83 6 ≠ 0 := fun e => by
  rcases h.2.2.1 with ⟨_, _, z⟩ | ⟨z, _⟩
  · rw [z] at hb
    exact absurd hb.2 (Int32.not_lt.mpr hb.1)
  · rw [e] at z
    exact absurd z (by decide)
theorem bad_1 {t : Nat} {I : e_I} {L : e_L} {v : Int32} {o7 : Option (Int32 × e_I)} {f8 : e_I → Option (Int32 × e_I)} (h : Rl t I L) (h4 : v ≠ 4) (e7 : o7 = some (-1, r_R7 I v)) (e8 : f8 (r_R7 I v) = some (-1, r_R8 (r_R7 I v) v)) : ∃ r I1 I2, o7 = some (r, I1) ∧ f8 I1 = some (r, I2) ∧ Rl (t + 1) I2 L :=
  ⟨-1, _, _, e7, e8, Rl_mono (Nat.le_succ t) (Rl_R h4 h)⟩
theorem good_1 {t : Nat} {I : e_I} {L : e_L} {x : Int32} {o7 : Option (Int32 × e_I)} {f8 : e_I → Option (Int32 × e_I)} (h : Rl t I L) (e7 : o7 = some (x, r_R7 I 0)) (e8 : f8 (r_R7 I 0) = some (x, r_R8 (r_R7 I 0) 0)) : ∃ r I1 I2, o7 = some (r, I1) ∧ f8 I1 = some (r, I2) ∧ Rl (t + 1) I2 L :=
  ⟨x, _, _, e7, e8, Rl_mono (Nat.le_succ t) (Rl_R (by decide) h)⟩
theorem T_batter (t : Nat) (ht : t < 600) : ST_batter (Rl t) (Rl (t + 1)) := by
  intro b v I L h
  obtain ⟨m1, m2, m3⟩ := r_many h.2.2.1
  have hb8 : ∀ s, f_X8_isBatter b (r_R7 I s) = some (if 0 ≤ b ∧ b < I 85 0 then 1 else 0) := fun s => r_isBatter (I := r_R7 I s) m2 m3
  have k7 : f_X7_batter b v I = f_X7_batter_27 b v (if (0 ≤ b ∧ b < I 85 0) ∧ (0 ≤ v ∧ v ≤ 8) then 0 else 1) I := by
    unfold f_X7_batter f_X7_batter_26
    rw [r_batter_has, r_b1, m1]
    by_cases h1 : 0 ≤ b ∧ b < I 85 0
    · rw [if_pos h1, if_neg (by decide), r_within, r_b1]
      by_cases h2 : 0 ≤ v ∧ v ≤ 8
      · rw [if_pos h2, if_neg (by decide), if_pos ⟨h1, h2⟩]
      · rw [if_neg h2, if_pos rfl, if_neg (fun n => h2 n.2)]
    · rw [if_neg h1, if_pos rfl, if_neg (fun n => h1 n.1)]
  have k8 : ∀ s, f_X8_batter b v (r_R7 I s) = f_X8_batter_24 b v (if (0 ≤ b ∧ b < I 85 0) ∧ (0 ≤ v ∧ v ≤ 8) then 1 else 0) (r_R7 I s) := fun s => by
    unfold f_X8_batter f_X8_batter_23
    rw [hb8, r_b1]
    by_cases h1 : 0 ≤ b ∧ b < I 85 0
    · rw [if_pos h1, if_neg (by decide), r_in, r_b1]
      by_cases h2 : 0 ≤ v ∧ v ≤ 8
      · rw [if_pos h2, if_neg (by decide), if_pos ⟨h1, h2⟩]
      · rw [if_neg h2, if_pos rfl, if_neg (fun n => h2 n.2)]
    · rw [if_neg h1, if_pos rfl, if_neg (fun n => h1 n.1)]
  by_cases hc : (0 ≤ b ∧ b < I 85 0) ∧ (0 ≤ v ∧ v ≤ 8)
  · rw [if_pos hc] at k7 k8
    have hx := Rl_tx h hc.1
    obtain ⟨c, s, d, f, sl, ti, CH, O, nx, p, fc, st, V⟩ := Rl_VW h hx (by omega)
    obtain ⟨n, w, W⟩ := Rl_LW h hx
    obtain ⟨B, hB2, rfl⟩ := nI_of (Int32.not_lt.mpr hc.1.1)
    obtain ⟨X, _, hX, rfl⟩ := nI_btw (m := 0) (n := 8) rfl rfl hc.2.1 hc.2.2
    have c9 := V.1.1.2
    have hB : B < c := by
      have e := V.2.2.1.1
      have k := hc.1.2
      rw [e] at k
      exact (nI_ltI hB2 (by omega)).mp k
    obtain ⟨q, hq, eq, nq⟩ := VW_place V hB
    have V7 := VW_R7 (v := 0) V
    have V8 := VW_R8 (v := 0) V7
    have W7 : LW (r_R7 I 0) 23 n w := LW_R7 W
    have W8 : LW (r_R8 (r_R7 I 0) 0) 23 n w := LW_R8 W7
    have e8 : ∀ r, (if nI X ≥ 6 then (if nI X ≠ 6 then f_X8_batter_73 (nI B) (nI X) (fun (v3_7 : Int32) (I_8 : e_I) => some (v3_7, I_8)) e_FU 0 0 (r_R8 (r_R7 I 0) 0) else e_b1 (f_X8_placeOf (nI B) (r_R8 (r_R7 I 0) 0)) (fun (r_9 : Int32) => some (r_9, (r_R8 (r_R7 I 0) 0)))) else e_as (e_ix (((6 : Int32) + ((6 : Int32) * nI B)) + nI X) 396 = true) (some ((r_R8 (r_R7 I 0) 0 85 (((6 : Int32) + ((6 : Int32) * nI B)) + nI X).toNatClampNeg), r_R8 (r_R7 I 0) 0))) = some (r, r_R8 (r_R7 I 0) 0) → f_X8_batter (nI B) (nI X) (r_R7 I 0) = some (r, r_R8 (r_R7 I 0) 0) := fun r e => by
      rw [k8 0]
      unfold f_X8_batter_24
      rw [r_unless, r_b1, if_neg (by decide), r_isRefused, r_b2, if_pos (by rfl)]
      exact e
    have e7 : ∀ r, (if nI X = 6 then e_b1 (f_X0_placeOf 23 (nI B) (r_R7 I 0)) (fun (r_5 : Int32) => some (r_5, r_R7 I 0)) else if nI X = 7 then e_b1 (f_X0_rowsOf 23 (nI B) (r_R7 I 0)) (fun (r_7 : Int32) => some (r_7, r_R7 I 0)) else if nI X = 8 then e_b1 (f_X0_runsOf 23 (nI B) (r_R7 I 0)) (fun (r_9 : Int32) => some (r_9, r_R7 I 0)) else e_b1 (f_X0_chanceOf 23 (nI B) (nI X) (r_R7 I 0)) (fun (r_10 : Int32) => some (r_10, r_R7 I 0))) = some (r, r_R7 I 0) → f_X7_batter (nI B) (nI X) I = some (r, r_R7 I 0) := fun r e => by
      rw [k7]
      unfold f_X7_batter_27
      rw [r_refused, r_b2, if_pos (by rfl)]
      exact e
    have cX : X < 6 ∨ X = 6 ∨ X = 7 ∨ X = 8 := by omega
    rcases cX with cX | rfl | rfl | rfl
    · have ix : (6 : Int32) + (6 : Int32) * nI B + nI X = nI (6 + 6 * B + X) := by rw [n6, nI_mul, nI_add, nI_add]
      refine good_1 (x := nI (CH B X)) h (e7 _ ?_) (e8 _ ?_)
      · rw [if_neg (show ¬ nI X = 6 from nI_n (b := 6) (by omega) (by omega) (by decide)), if_neg (show ¬ nI X = 7 from nI_n (b := 7) (by omega) (by omega) (by decide)), if_neg (show ¬ nI X = 8 from nI_n (b := 8) (by omega) (by omega) (by decide)), C_chanceOf V7.2.1 hB c9 cX, r_b1]
      · unfold e_as
        rw [if_neg (show ¬ nI X ≥ 6 from c_ge (N := 6) cX (by decide)), ix, if_pos (nI_ix (by omega) (by omega)), nI_clamp (by omega), V8.2.2.1.2.2.2.2 B hB X cX]
    · refine good_1 (x := nI q) h (e7 _ ?_) (e8 _ ?_)
      · rw [if_pos (show nI 6 = 6 from rfl), C_placeOf V7.2.1 c9 hq eq (by omega) nq, r_b1]
      · rw [if_pos (show nI 6 ≥ 6 by decide), if_neg (fun n => n rfl), M_placeOf (O := O) (c := c) V8.2.2.2.1 c9 hq eq (by omega) nq, r_b1]
    · refine good_1 (x := rs (fun i => if lgC (r_R7 I 0) 23 w i 0 ≠ nI B then 0 else 1) n) h (e7 _ ?_) (e8 _ ?_)
      · rw [if_neg (by decide), if_pos (show nI 7 = 7 from rfl), C_rowsOf W7, r_b1]
      · rw [if_pos (show nI 7 ≥ 6 by decide), if_pos (by decide), M_sumOf W8]
        refine congrArg some (Prod.ext (rs_congr n (fun i hi => ?_)) rfl)
        have el : lgM (r_R8 (r_R7 I 0) 0) n i 0 = lgC (r_R7 I 0) 23 w i 0 := (lg_eq W8 hi (by decide)).symm
        rw [el]
        by_cases z : lgC (r_R7 I 0) 23 w i 0 = nI B
        · rw [if_pos z, if_neg (fun n => n rfl), if_neg (fun n => n z)]
        · rw [if_neg z, if_pos z]
    · refine good_1 (x := rs (fun i => if lgC (r_R7 I 0) 23 w i 0 ≠ nI B then 0 else lgC (r_R7 I 0) 23 w i 2) n) h (e7 _ ?_) (e8 _ ?_)
      · rw [if_neg (by decide), if_neg (by decide), if_pos (show nI 8 = 8 from rfl), C_runsOf W7, r_b1]
      · rw [if_pos (show nI 8 ≥ 6 by decide), if_pos (by decide), M_sumOf W8]
        refine congrArg some (Prod.ext (rs_congr n (fun i hi => ?_)) rfl)
        have el : lgM (r_R8 (r_R7 I 0) 0) n i 0 = lgC (r_R7 I 0) 23 w i 0 := (lg_eq W8 hi (by decide)).symm
        have el2 : lgM (r_R8 (r_R7 I 0) 0) n i 2 = lgC (r_R7 I 0) 23 w i 2 := (lg_eq W8 hi (by decide)).symm
        rw [el, el2]
        by_cases z : lgC (r_R7 I 0) 23 w i 0 = nI B
        · rw [if_pos z, if_pos (by decide), if_neg (fun n => n z)]
        · rw [if_neg z, if_pos z]
  · rw [if_neg hc] at k7 k8
    refine bad_1 (v := 1) h (by decide) ?_ ?_
    · rw [k7]
      unfold f_X7_batter_27
      rw [r_refused]
      rfl
    · rw [k8 1]
      unfold f_X8_batter_24
      rw [r_unless, r_b1, if_pos rfl, r_isRefused]
      rfl
