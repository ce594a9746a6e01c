theorem r_past_of {I J : e_I} {t : Nat} (h9 : J 9 = I 9) (h83 : J 83 33 = I 83 33) (h96 : J 96 = I 96) (hg : ∀ a, 33 ≤ a → a ≤ 82 → J a = I a) (h : r_past I t) : r_past J t := by
  obtain ⟨h1, h2⟩ := h
  refine ⟨by rw [h9, h83]; exact h1, fun j hj g hgg => ?_⟩
  rw [h9] at hj hgg
  have k := h2 j hj g hgg
  have hm : (r_n (I 9 1) + 9 - j) % 10 < 10 := Nat.mod_lt _ (by decide)
  rw [hg g (by omega) (by omega), hg (g + 1) (by omega) (by omega), hg (g + 2) (by omega) (by omega), hg (g + 3) (by omega) (by omega), hg (g + 4) (by omega) (by omega), h96, h9]
  exact k
theorem r_tape_of {I J : e_I} (h1 : J 1 3 = I 1 3) (h83 : J 83 5 = I 83 5) (h84 : J 84 = I 84) (h5 : J 5 = I 5) (h6 : J 6 = I 6) (h : r_tape I) : r_tape J := by
  unfold r_tape
  rw [h1, h83, h84, h5, h6]
  exact h
theorem r_where {Rel Rel2 : e_I → e_L → Prop} (hR : ∀ I L, Rel I L → r_told I) (hK : ∀ I L, Rel I L → Rel2 (e_ui I 83 0 0) L) : ST_where Rel Rel2 := by
  intro I L h
  obtain ⟨h1, h2, h3, h4⟩ := hR I L h
  by_cases q : I 0 8 = 4
  · refine ⟨I 0 10, e_ui I 83 0 0, ?_, ?_, hK I L h⟩
    · show (if I 0 8 ≠ 4 then f_X7_where_16 I (-1) else f_X7_where_16 I (I 0 10)) = _
      rw [if_neg (fun n => n q)]
      rfl
    · have e : I 83 1 = 4 := h1 ▸ q
      show (if I 83 1 ≠ 4 then f_X8_where_21 (-1) (e_ui I 83 0 0) else f_X8_where_21 (I 83 3) (e_ui I 83 0 0)) = _
      rw [if_neg (fun n => n e), h3 q]
      rfl
  · refine ⟨-1, e_ui I 83 0 0, ?_, ?_, hK I L h⟩
    · show (if I 0 8 ≠ 4 then f_X7_where_16 I (-1) else f_X7_where_16 I (I 0 10)) = _
      rw [if_pos q]
      rfl
    · have e : I 83 1 ≠ 4 := h1 ▸ q
      show (if I 83 1 ≠ 4 then f_X8_where_21 (-1) (e_ui I 83 0 0) else f_X8_where_21 (I 83 3) (e_ui I 83 0 0)) = _
      rw [if_pos e]
      rfl
-- a call is refused, or not: both sides write the trouble down
def r_R7 (I : e_I) (v : Int32) : e_I := e_ui I 0 8 v
def r_R8 (I : e_I) (v : Int32) : e_I := e_ui (e_ui (e_ui I 83 0 0) 83 3 (-1)) 83 1 v
def r_b (v : Int32) : Int32 := if v = 0 then 0 else 1
theorem r_refused (v : Int32) (I : e_I) : f_X7_refused v I = some (r_b v, r_R7 I v) := by
  show (if v = 0 then f_X7_refused_14 0 (r_R7 I v) else f_X7_refused_14 1 (r_R7 I v)) = _
  unfold r_b
  by_cases q : v = 0
  · rw [if_pos q, if_pos q]
    rfl
  · rw [if_neg q, if_neg q]
    rfl
theorem r_isRefused (v : Int32) (I : e_I) : f_X8_isRefused v I = some (r_b v, r_R8 I v) := by
  show (if v = 0 then f_X8_isRefused_24 0 (r_R8 I v) else f_X8_isRefused_24 1 (r_R8 I v)) = _
  unfold r_b
  by_cases q : v = 0
  · rw [if_pos q, if_pos q]
    rfl
  · rw [if_neg q, if_neg q]
    rfl
theorem r_told_R {I : e_I} {v : Int32} (hv : v ≠ 4) (h : r_told I) : r_told (r_R8 (r_R7 I v) v) :=
  ⟨rfl, h.2.1, fun n => absurd n hv, fun _ => rfl⟩
theorem r_within (x lo hi : Int32) : f_X7_within x lo hi = some (if lo ≤ x ∧ x ≤ hi then 1 else 0) := by
  unfold f_X7_within
  by_cases h1 : x < lo
  · rw [if_pos h1, if_neg (fun n => Int32.not_lt.mpr n.1 h1)]
    rfl
  · rw [if_neg h1]
    by_cases h2 : x > hi
    · rw [if_pos h2, if_neg (fun n => Int32.not_lt.mpr n.2 h2)]
      rfl
    · rw [if_neg h2, if_pos ⟨Int32.not_lt.mp h1, Int32.not_lt.mp h2⟩]
      rfl
theorem r_in (x lo hi : Int32) : f_X8_in x lo hi = some (if lo ≤ x ∧ x ≤ hi then 1 else 0) := by
  unfold f_X8_in
  by_cases h1 : x < lo
  · rw [if_pos h1, if_neg (fun n => Int32.not_lt.mpr n.1 h1)]
    rfl
  · rw [if_neg h1]
    by_cases h2 : x > hi
    · rw [if_pos h2, if_neg (fun n => Int32.not_lt.mpr n.2 h2)]
      rfl
    · rw [if_neg h2, if_pos ⟨Int32.not_lt.mp h1, Int32.not_lt.mp h2⟩]
      rfl
theorem r_unless (x : Int32) : f_X8_unless x = some (if x = 0 then 1 else 0) := by
  unfold f_X8_unless
  by_cases h : x = 0
  · rw [if_pos h, if_pos h]
    rfl
  · rw [if_neg h, if_neg h]
    rfl
theorem r_unless_ (x y : Int32) : f_X8_unless_ x y = some (if x = 0 then 1 else if y = 0 then 2 else 0) := by
  unfold f_X8_unless_
  by_cases h : x = 0
  · rw [if_neg (fun n => n h), if_pos h]
    rfl
  · rw [if_pos h, if_neg h]
    by_cases k : y = 0
    · rw [if_pos k, if_pos k]
      rfl
    · rw [if_neg k, if_neg k]
      rfl
theorem r_size {Rel Rel2 : e_I → e_L → Prop} (hR : ∀ I L, Rel I L → r_tape I) (hK : ∀ I L, Rel I L → Rel2 (e_ui I 83 0 0) L) : ST_size Rel Rel2 := by
  intro I L h
  obtain ⟨⟨h1, _⟩, _⟩ := hR I L h
  exact ⟨I 1 3, e_ui I 83 0 0, rfl, (by rw [h1]; rfl), hK I L h⟩
theorem r_trouble {Rel Rel2 : e_I → e_L → Prop} (hR : ∀ I L, Rel I L → r_told I) (hK : ∀ I L, Rel I L → Rel2 (e_ui I 83 0 0) L) : ST_trouble Rel Rel2 := by
  intro I L h
  obtain ⟨h1, _⟩ := hR I L h
  exact ⟨I 0 8, e_ui I 83 0 0, rfl, (by rw [h1]; rfl), hK I L h⟩
-- with a text or without
def r_text (I : e_I) (t : Nat) : Prop :=
  (I 83 6 = 0 ∧ I 23 0 = 0 ∧ I 85 0 = 0) ∨ (I 83 6 = 1 ∧ r_GR (I 23) (I 24) (I 25) (I 26) (I 27) (I 85) 0 (100 * t))
theorem r_hasText {I : e_I} {t : Nat} (h : r_text I t) : f_X7_hasText I = some (I 83 6) := by
  unfold f_X7_hasText
  rcases h with ⟨h1, h2, _⟩ | ⟨h1, ⟨⟨h2, h3, _⟩, _⟩⟩
  · rw [h2, h1]
    rfl
  · rw [if_neg (fun n => absurd (Int32.le_trans h3 (h2 ▸ n)) (by decide)), h1]
    rfl
theorem r_b1 {α β : Type} (x : α) (f : α → Option β) : e_b1 (some x) f = f x := rfl
theorem r_b2 {α β γ : Type} (x : α) (y : β) (f : α → β → Option γ) : e_b2 (some (x, y)) f = f x y := rfl
theorem r_five {v : Int32} (h0 : 0 ≤ v) (h4 : v ≤ 4) : v = 0 ∨ v = 1 ∨ v = 2 ∨ v = 3 ∨ v = 4 := by
  have a := Int32.le_iff_toInt_le.mp h0
  have b := Int32.le_iff_toInt_le.mp h4
  have a' : (0 : Int) ≤ v.toInt := a
  have b' : v.toInt ≤ 4 := b
  have c : v.toInt = 0 ∨ v.toInt = 1 ∨ v.toInt = 2 ∨ v.toInt = 3 ∨ v.toInt = 4 := by omega
  rcases c with c | c | c | c | c
  · exact Or.inl (Int32.toInt_inj.mp c)
  · exact Or.inr (Or.inl (Int32.toInt_inj.mp c))
  · exact Or.inr (Or.inr (Or.inl (Int32.toInt_inj.mp c)))
  · exact Or.inr (Or.inr (Or.inr (Or.inl (Int32.toInt_inj.mp c))))
  · exact Or.inr (Or.inr (Or.inr (Or.inr (Int32.toInt_inj.mp c))))
theorem r_rule {t : Nat} {Rel Rel2 : e_I → e_L → Prop} (hR : ∀ I L, Rel I L → r_text I t) (hK : ∀ I L v, v ≠ 4 → Rel I L → Rel2 (r_R8 (r_R7 I v) v) L) : ST_rule Rel Rel2 := by
  intro v I L h
  have ht := hR I L h
  have h7 := r_hasText ht
  have bad7 : f_X7_rule_21 v I = some (-1, r_R7 I 1) := by
    unfold f_X7_rule_21 f_X7_rule_22
    rw [r_refused]
    rfl
  have bad8 : f_X8_rule_21 v (r_R7 I 1) = some (-1, r_R8 (r_R7 I 1) 1) := by
    unfold f_X8_rule_21 f_X8_rule_22
    rw [r_unless, r_b1]
    have e : (if (0 : Int32) = 0 then (1 : Int32) else 0) = 1 := rfl
    rw [e, r_isRefused]
    rfl
  unfold f_X7_rule f_X8_rule
  rw [h7, r_within]
  rcases ht with ⟨q, _⟩ | ⟨q, hg⟩
  · refine ⟨-1, r_R7 I 1, r_R8 (r_R7 I 1) 1, ?_, ?_, hK I L 1 (by decide) h⟩
    · rw [q]
      exact bad7
    · have e : r_R7 I 1 83 6 = 0 := q
      rw [if_pos e]
      exact bad8
  · by_cases c : 0 ≤ v ∧ v ≤ 4
    · refine ⟨I 25 v.toNatClampNeg, r_R7 I 0, r_R8 (r_R7 I 0) 0, ?_, ?_, hK I L 0 (by decide) h⟩
      · rw [q, if_pos c]
        rw [r_b1, if_neg (by decide), r_b1, if_neg (by decide)]
        unfold f_X7_rule_22 f_X0_ruled
        rw [r_refused, r_b2, if_pos (by rfl), r_within, if_pos c]
        rcases r_five c.1 c.2 with e | e | e | e | e <;> subst e <;> rfl
      · have e : r_R7 I 0 83 6 = 1 := q
        rw [e, if_neg (by decide), r_in, if_pos c]
        rw [r_b1, if_neg (by decide)]
        unfold f_X8_rule_22
        rw [r_unless, r_b1]
        have e : (if (1 : Int32) = 0 then (1 : Int32) else 0) = 0 := rfl
        rw [e, r_isRefused, r_b2, if_pos (by rfl)]
        have k := hg.2.1
        have k0 := k 0 (by decide)
        have k1 := k 1 (by decide)
        have k2 := k 2 (by decide)
        have k3 := k 3 (by decide)
        have k4 := k 4 (by decide)
        rcases r_five c.1 c.2 with e | e | e | e | e <;> subst e
        · show some (I 85 1, _) = some (I 25 0, _)
          rw [k0]
        · show some (I 85 2, _) = some (I 25 1, _)
          rw [k1]
        · show some (I 85 3, _) = some (I 25 2, _)
          rw [k2]
        · show some (I 85 4, _) = some (I 25 3, _)
          rw [k3]
        · show some (I 85 5, _) = some (I 25 4, _)
          rw [k4]
    · refine ⟨-1, r_R7 I 1, r_R8 (r_R7 I 1) 1, ?_, ?_, hK I L 1 (by decide) h⟩
      · rw [q, if_neg c]
        exact bad7
      · have e : r_R7 I 1 83 6 = 1 := q
        rw [e, if_neg (by decide), r_in, if_neg c]
        exact bad8
theorem r_upto {v k : Int32} {n : Nat} (h0 : 0 ≤ v) (h4 : v ≤ k) (hk : k.toInt = n) : ∃ j, j ≤ n ∧ v = Int32.ofInt j := by
  have a' : (0 : Int) ≤ v.toInt := Int32.le_iff_toInt_le.mp h0
  have b' : v.toInt ≤ k.toInt := Int32.le_iff_toInt_le.mp h4
  refine ⟨v.toInt.toNat, by omega, ?_⟩
  rw [Int.toNat_of_nonneg a', Int32.ofInt_toInt]
theorem r_bo_all : ∀ b, b < 8 → ∀ o, o < 3 → (Int32.ofInt (Int.ofNat o) * 8 + Int32.ofInt (Int.ofNat b)) &&& 7 = Int32.ofInt (Int.ofNat b) ∧ (Int32.ofInt (Int.ofNat o) * 8 + Int32.ofInt (Int.ofNat b)) >>> ((3 : Int32) &&& 31) = Int32.ofInt (Int.ofNat o) := by decide +kernel
theorem r_bo {b o : Int32} (h1 : 0 ≤ b) (h2 : b ≤ 7) (h3 : 0 ≤ o) (h4 : o ≤ 2) : (o * 8 + b) &&& 7 = b ∧ (o * 8 + b) >>> ((3 : Int32) &&& 31) = o := by
  obtain ⟨j, hj, e⟩ := r_upto (n := 7) h1 h2 rfl
  obtain ⟨i, hi, e'⟩ := r_upto (n := 2) h3 h4 rfl
  rw [e, e']
  exact r_bo_all j (by omega) i (by omega)
theorem r_nine {v : Int32} (h0 : 0 ≤ v) (h4 : v ≤ 8) : v = 0 ∨ v = 1 ∨ v = 2 ∨ v = 3 ∨ v = 4 ∨ v = 5 ∨ v = 6 ∨ v = 7 ∨ v = 8 := by
  obtain ⟨j, hj, e⟩ := r_upto (n := 8) h0 h4 rfl
  have c : j = 0 ∨ j = 1 ∨ j = 2 ∨ j = 3 ∨ j = 4 ∨ j = 5 ∨ j = 6 ∨ j = 7 ∨ j = 8 := by omega
  rcases c with c | c | c | c | c | c | c | c | c <;> subst c <;> subst e <;> decide
theorem r_about {t : Nat} {Rel Rel2 : e_I → e_L → Prop} (hR : ∀ I L, Rel I L → r_text I t) (hP : ∀ I L, Rel I L → r_past I t) (hK : ∀ I L v, v ≠ 4 → Rel I L → Rel2 (r_R8 (r_R7 I v) v) L) : ST_about Rel Rel2 := by
  intro v I L h
  have ht := hR I L h
  have h7 := r_hasText ht
  have bad7 : f_X7_about_22 v I = some (-1, r_R7 I 1) := by
    unfold f_X7_about_22 f_X7_about_23
    rw [r_refused]
    rfl
  have bad8 : f_X8_about_22 v (r_R7 I 1) = some (-1, r_R8 (r_R7 I 1) 1) := by
    unfold f_X8_about_22 f_X8_about_23
    rw [r_unless, r_b1]
    have e : (if (0 : Int32) = 0 then (1 : Int32) else 0) = 1 := rfl
    rw [e, r_isRefused]
    rfl
  unfold f_X7_about f_X8_about
  rw [h7, r_within]
  rcases ht with ⟨q, _⟩ | ⟨q, hg⟩
  · refine ⟨-1, r_R7 I 1, r_R8 (r_R7 I 1) 1, ?_, ?_, hK I L 1 (by decide) h⟩
    · rw [q]
      exact bad7
    · have e : r_R7 I 1 83 6 = 0 := q
      rw [if_pos e]
      exact bad8
  · by_cases c : 0 ≤ v ∧ v ≤ 8
    · have e1 : r_R7 I 0 83 6 = 1 := q
      have e2 : (if (1 : Int32) = 0 then (1 : Int32) else 0) = 0 := rfl
      have x7 : ∀ r, f_X7_about_23 v 0 I = some (r, r_R7 I 0) → (e_b1 (some (I 83 6)) fun r_1 => if r_1 = 0 then f_X7_about_22 v I else e_b1 (some (if 0 ≤ v ∧ v ≤ 8 then (1 : Int32) else 0)) fun r_3 => if r_3 = 0 then f_X7_about_22 v I else f_X7_about_23 v 0 I) = some (r, r_R7 I 0) := fun r k => by
        rw [q, if_pos c, r_b1, if_neg (by decide), r_b1, if_neg (by decide)]
        exact k
      obtain ⟨⟨g0, _⟩, _, _, _, _, _, _, g69, ⟨b1, b2, b3, b4, b5⟩, ⟨g72, _⟩, ⟨g73, _⟩, g74, ⟨g75, _⟩, _⟩ := hg
      have bo := r_bo b1 b2 b3 b4
      rw [← b5] at bo
      obtain ⟨⟨p1, _⟩, _⟩ := hP I L h
      have f7 : f_X7_about_23 v 0 I = some ((if v = 0 then I 85 0 else if v = 1 then I 85 69 else if v = 2 then I 85 70 else if v = 3 then I 85 71 else if v = 4 then I 85 74 else if v = 5 then I 85 72 else if v = 6 then I 85 73 else if v = 7 then I 85 75 else I 83 33), r_R7 I 0) := by
        unfold f_X7_about_23
        rw [r_refused, r_b2, if_pos (by rfl)]
        rcases r_nine c.1 c.2 with e | e | e | e | e | e | e | e | e <;> subst e
        · show some (I 23 0, _) = some (I 85 0, _)
          rw [g0]
        · show some (I 23 1, _) = some (I 85 69, _)
          rw [g69]
        · show some (I 23 2 &&& 7, _) = some (I 85 70, _)
          rw [bo.1]
        · show some (I 23 2 >>> ((3 : Int32) &&& 31), _) = some (I 85 71, _)
          rw [bo.2]
        · show some (I 23 3, _) = some (I 85 74, _)
          rw [g74]
        · show some (I 23 4, _) = some (I 85 72, _)
          rw [g72]
        · show some (I 23 5, _) = some (I 85 73, _)
          rw [g73]
        · show some (I 23 6, _) = some (I 85 75, _)
          rw [g75]
        · show some (I 9 2, _) = some (I 83 33, _)
          rw [p1]
      refine ⟨_, r_R7 I 0, r_R8 (r_R7 I 0) 0, x7 _ f7, ?_, hK I L 0 (by decide) h⟩
      rw [e1, if_neg (by decide), r_in, if_pos c, r_b1, if_neg (by decide)]
      unfold f_X8_about_23
      rw [r_unless, r_b1, e2, r_isRefused, r_b2, if_pos (by rfl)]
      rcases r_nine c.1 c.2 with e | e | e | e | e | e | e | e | e <;> subst e <;> rfl
    · refine ⟨-1, r_R7 I 1, r_R8 (r_R7 I 1) 1, ?_, ?_, hK I L 1 (by decide) h⟩
      · rw [q, if_neg c]
        exact bad7
      · have e : r_R7 I 1 83 6 = 1 := q
        rw [e, if_neg (by decide), r_in, if_neg c]
        exact bad8
theorem r_pred_all : ∀ j, j < 10 → (Int32.ofInt (Int.ofNat j) - 1).toInt = (Int32.ofInt (Int.ofNat j)).toInt - 1 := by decide +kernel
theorem r_pred {n v : Int32} (h0 : 0 ≤ n) (h9 : n ≤ 9) : v ≤ n - 1 ↔ v < n := by
  obtain ⟨j, hj, e⟩ := r_upto (n := 9) h0 h9 rfl
  rw [Int32.le_iff_toInt_le, Int32.lt_iff_toInt_lt, e]
  have k : (Int32.ofInt (j : Int) - 1).toInt = (Int32.ofInt (j : Int)).toInt - 1 := r_pred_all j (by omega)
  rw [k]
  omega
theorem r_isBatter {I : e_I} {v : Int32} (h0 : 0 ≤ I 85 0) (h9 : I 85 0 ≤ 9) : f_X8_isBatter v I = some (if 0 ≤ v ∧ v < I 85 0 then 1 else 0) := by
  have e : f_X8_isBatter v I = e_b1 (f_X8_in v 0 (I 85 0 - 1)) (fun r => e_as (r = 0 ∨ r = 1) (some r)) := rfl
  rw [e, r_in, r_b1]
  by_cases c : 0 ≤ v ∧ v < I 85 0
  · rw [if_pos c, if_pos ⟨c.1, (r_pred h0 h9).mpr c.2⟩]
    rfl
  · rw [if_neg c, if_neg (fun n => c ⟨n.1, (r_pred h0 h9).mp n.2⟩)]
    rfl
theorem r_hasPlace (g : Nat) (v : Int32) (I : e_I) : f_X0_hasPlace g v I = some (if 0 ≤ v ∧ v < I g 0 then 1 else 0) := by
  unfold f_X0_hasPlace
  by_cases h1 : v < 0
  · rw [if_pos h1, if_neg (fun n => Int32.not_lt.mpr n.1 h1)]
    rfl
  · rw [if_neg h1]
    by_cases h2 : v ≥ I g 0
    · rw [if_pos h2, if_neg (fun n => Int32.not_lt.mpr h2 n.2)]
      rfl
    · rw [if_neg h2, if_pos ⟨Int32.not_lt.mp h1, Int32.not_le.mp h2⟩]
      rfl
theorem r_many {I : e_I} {t : Nat} (h : r_text I t) : I 23 0 = I 85 0 ∧ 0 ≤ I 85 0 ∧ I 85 0 ≤ 9 := by
  rcases h with ⟨_, h1, h2⟩ | ⟨_, ⟨h1, h2, h3⟩, _⟩
  · rw [h1, h2]
    decide
  · exact ⟨h1, Int32.le_trans (by decide) h2, h3⟩
theorem r_place {t : Nat} {Rel Rel2 : e_I → e_L → Prop} (hR : ∀ I L, Rel I L → r_text I t) (hK : ∀ I L v, v ≠ 4 → Rel I L → Rel2 (r_R8 (r_R7 I v) v) L) : ST_place Rel Rel2 := by
  intro v I L h
  have ht := hR I L h
  obtain ⟨m1, m2, m3⟩ := r_many ht
  unfold f_X7_place f_X8_place
  rw [r_hasPlace, m1, r_b1]
  have hb : ∀ s, f_X8_isBatter v (r_R7 I s) = some (if 0 ≤ v ∧ v < I 85 0 then 1 else 0) := fun s => r_isBatter (I := r_R7 I s) m2 m3
  by_cases c : 0 ≤ v ∧ v < I 85 0
  · rcases ht with ⟨_, _, z⟩ | ⟨q, hg⟩
    · exact absurd (z ▸ c.2) (Int32.not_lt.mpr c.1)
    · obtain ⟨j, hj, e⟩ := r_upto (n := 9) c.1 (Int32.le_of_lt (Int32.lt_of_lt_of_le c.2 m3)) rfl
      have hlt : (v.toNatClampNeg : Nat) < r_n (I 85 0) := by
        have a := Int32.lt_iff_toInt_lt.mp c.2
        have b := Int32.le_iff_toInt_le.mp c.1
        have b' : (0 : Int) ≤ v.toInt := b
        show v.toInt.toNat < (I 85 0).toInt.toNat
        omega
      obtain ⟨_, _, _, _, _, go, _⟩ := hg
      have o := (go _ hlt).1
      have hv : v = 0 ∨ v = 1 ∨ v = 2 ∨ v = 3 ∨ v = 4 ∨ v = 5 ∨ v = 6 ∨ v = 7 ∨ v = 8 := r_nine c.1 ((r_pred (n := 9) (by decide) (by decide)).mpr (Int32.lt_of_lt_of_le c.2 m3))
      have d7 : f_X0_batterAt 23 v (r_R7 I 0) = some (I 26 v.toNatClampNeg) := by
        rcases hv with e | e | e | e | e | e | e | e | e <;> subst e <;> rfl
      refine ⟨I 26 v.toNatClampNeg, r_R7 I 0, r_R8 (r_R7 I 0) 0, ?_, ?_, hK I L 0 (by decide) h⟩
      · rw [if_pos c, if_neg (by decide)]
        unfold f_X7_place_17
        rw [r_refused, r_b2, if_pos (by rfl), d7]
        rfl
      · have e2 : (if (1 : Int32) = 0 then (1 : Int32) else 0) = 0 := rfl
        rw [hb, if_pos c, r_b1, r_unless, r_b1, e2, r_isRefused, r_b2, if_pos (by rfl), o]
        clear d7 hlt go hj e m1
        rcases hv with e | e | e | e | e | e | e | e | e <;> subst e <;> rfl
  · refine ⟨-1, r_R7 I 1, r_R8 (r_R7 I 1) 1, ?_, ?_, hK I L 1 (by decide) h⟩
    · rw [if_neg c, if_pos (by rfl)]
      unfold f_X7_place_17
      rw [r_refused]
      rfl
    · have e2 : (if (0 : Int32) = 0 then (1 : Int32) else 0) = 1 := rfl
      rw [hb, if_neg c, r_b1, r_unless, r_b1, e2, r_isRefused]
      rfl
-- where the j-th youngest row of the log lies
theorem r_slot_all : ∀ w, w < 40 → ∀ j, j < 40 → (if Int32.ofInt (Int.ofNat w) < Int32.ofInt (Int.ofNat j) then Int32.ofInt (Int.ofNat w) - Int32.ofInt (Int.ofNat j) + 40 else Int32.ofInt (Int.ofNat w) - Int32.ofInt (Int.ofNat j)) = Int32.ofInt (Int.ofNat ((w + 40 - j) % 40)) := by decide +kernel
theorem r_six {v : Int32} (h0 : 0 ≤ v) (h4 : v ≤ 5) : v = 0 ∨ v = 1 ∨ v = 2 ∨ v = 3 ∨ v = 4 ∨ v = 5 := by
  obtain ⟨j, hj, e⟩ := r_upto (n := 5) h0 h4 rfl
  have c : j = 0 ∨ j = 1 ∨ j = 2 ∨ j = 3 ∨ j = 4 ∨ j = 5 := by omega
  rcases c with c | c | c | c | c | c <;> subst c <;> subst e <;> decide
theorem r_hasRow (g : Nat) (v : Int32) (I : e_I) : f_X0_hasRow g v I = some (if 0 ≤ v ∧ v < I g 6 then 1 else 0) := by
  unfold f_X0_hasRow
  by_cases h1 : v < 0
  · rw [if_pos h1, if_neg (fun n => Int32.not_lt.mpr n.1 h1)]
    rfl
  · rw [if_neg h1]
    by_cases h2 : v ≥ I g 6
    · rw [if_pos h2, if_neg (fun n => Int32.not_lt.mpr h2 n.2)]
      rfl
    · rw [if_neg h2, if_pos ⟨Int32.not_lt.mp h1, Int32.not_le.mp h2⟩]
      rfl
theorem r_batter_has (g : Nat) (v : Int32) (I : e_I) : f_X0_hasBatter g v I = some (if 0 ≤ v ∧ v < I g 0 then 1 else 0) := by
  unfold f_X0_hasBatter
  by_cases h1 : v < 0
  · rw [if_pos h1, if_neg (fun n => Int32.not_lt.mpr n.1 h1)]
    rfl
  · rw [if_neg h1]
    by_cases h2 : v ≥ I g 0
    · rw [if_pos h2, if_neg (fun n => Int32.not_lt.mpr h2 n.2)]
      rfl
    · rw [if_neg h2, if_pos ⟨Int32.not_lt.mp h1, Int32.not_le.mp h2⟩]
      rfl
theorem r_ix6_all : ∀ w, w < 40 → ∀ k, k < 6 → e_ix (Int32.ofInt (Int.ofNat w) * 6 + Int32.ofInt (Int.ofNat k)) 240 = true ∧ (Int32.ofInt (Int.ofNat w) * 6 + Int32.ofInt (Int.ofNat k)).toNatClampNeg = w * 6 + k := by decide +kernel
theorem r_ix8_all : ∀ q, q < 40 → ∀ k, k < 8 → e_ix (76 + 8 * Int32.ofInt (Int.ofNat q) + Int32.ofInt (Int.ofNat k)) 396 = true ∧ ((76 : Int32) + 8 * Int32.ofInt (Int.ofNat q) + Int32.ofInt (Int.ofNat k)).toNatClampNeg = 76 + 8 * q + k := by decide +kernel
theorem r_nat {v k : Int32} (h0 : 0 ≤ v) (h : v < k) : v.toNatClampNeg < r_n k := by
  have a := Int32.lt_iff_toInt_lt.mp h
  have b' : (0 : Int) ≤ v.toInt := Int32.le_iff_toInt_le.mp h0
  show v.toInt.toNat < k.toInt.toNat
  omega
theorem r_ofnat {j : Nat} (h : j < 1000) : (Int32.ofInt (Int.ofNat j)).toNatClampNeg = j := by
  have e : (Int32.ofInt (Int.ofNat j)).toInt = Int.ofNat j := nI_toInt (n := j) (by omega)
  show (Int32.ofInt (Int.ofNat j)).toInt.toNat = j
  rw [e]
  rfl
theorem r_noted {I : e_I} {j k : Nat} (h0 : 0 ≤ I 23 7) (h39 : I 23 7 ≤ 39) (hj : j < 40) (hk : k < 6) (hr : 0 ≤ Int32.ofInt (Int.ofNat j) ∧ Int32.ofInt (Int.ofNat j) < I 23 6) : f_X0_noted 23 (Int32.ofInt (Int.ofNat j)) (Int32.ofInt (Int.ofNat k)) I = some (I 27 (((r_n (I 23 7) + 40 - j) % 40) * 6 + k)) := by
  unfold f_X0_noted
  rw [r_hasRow, if_pos hr, r_b1, if_neg (by decide), r_within]
  have c : (0 : Int32) ≤ Int32.ofInt (Int.ofNat k) ∧ Int32.ofInt (Int.ofNat k) ≤ 5 := by
    have c : k = 0 ∨ k = 1 ∨ k = 2 ∨ k = 3 ∨ k = 4 ∨ k = 5 := by omega
    rcases c with c | c | c | c | c | c <;> subst c <;> decide
  rw [if_pos c, r_b1, if_pos (by decide)]
  obtain ⟨w, hw, e⟩ := r_upto (n := 39) h0 h39 rfl
  have hw' : r_n (I 23 7) = w := by
    rw [e]
    exact r_ofnat (by omega)
  have s := r_slot_all w (by omega) j hj
  have hm : (w + 40 - j) % 40 < 40 := Nat.mod_lt _ (by decide)
  have x := r_ix6_all _ hm k hk
  have fin : f_X0_noted_45 23 I (Int32.ofInt (Int.ofNat k)) (Int32.ofInt (Int.ofNat ((w + 40 - j) % 40))) = some (I 27 (((r_n (I 23 7) + 40 - j) % 40) * 6 + k)) := by
    unfold f_X0_noted_45
    unfold e_as
    rw [if_pos x.1, x.2, hw']
  have e' : I 23 7 = Int32.ofInt (Int.ofNat w) := e
  rw [e'] at fin ⊢
  rw [← s] at fin
  by_cases l : Int32.ofInt (Int.ofNat w) < Int32.ofInt (Int.ofNat j)
  · rw [if_pos l] at fin ⊢
    exact fin
  · rw [if_neg l] at fin ⊢
    exact fin
theorem r_lix_all : ∀ n, n ≤ 40 → ∀ j, j < n → ∀ k, k < 8 → e_ix (((76 : Int32) + 8 * ((Int32.ofInt (Int.ofNat n) - 1) - Int32.ofInt (Int.ofNat j))) + Int32.ofInt (Int.ofNat k)) 396 = true ∧ (((76 : Int32) + 8 * ((Int32.ofInt (Int.ofNat n) - 1) - Int32.ofInt (Int.ofNat j))) + Int32.ofInt (Int.ofNat k)).toNatClampNeg = 76 + 8 * (n - 1 - j) + k := by decide +kernel
theorem r_logged {I : e_I} {n j k : Nat} (hn : I 85 75 = Int32.ofInt (Int.ofNat n)) (h40 : n ≤ 40) (hj : j < n) (hk : k < 8) : f_X8_logged (Int32.ofInt (Int.ofNat j)) (Int32.ofInt (Int.ofNat k)) I = some (I 85 (76 + 8 * (n - 1 - j) + k)) := by
  have x := r_lix_all n h40 j hj k hk
  have e : (75 : Int32).toNatClampNeg = 75 := rfl
  unfold f_X8_logged e_as
  rw [e, hn, if_pos x.1, x.2]
