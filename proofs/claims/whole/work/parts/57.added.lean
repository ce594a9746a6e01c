-- WHAT WAS ADDED
theorem LW_row {I : e_I} {g n w j : Nat} (h : LW I g n w) (hj : j < n) : ∃ r ah bh, r ≤ 4 ∧ ah < 24 ∧ bh ≤ 24 ∧ (lgC I g w j 2 = nI r ∧ lgC I g w j 4 = nI ah ∧ lgC I g w j 5 = nI bh) ∧ (lgM I n j 2 = nI r ∧ lgM I n j 4 = nI (ah % 8) ∧ lgM I n j 5 = nI (ah / 8)) ∧ ((bh = 24 ∧ lgM I n j 7 = nI 3) ∨ (bh < 24 ∧ lgM I n j 6 = nI (bh % 8) ∧ lgM I n j 7 = nI (bh / 8))) := by
  obtain ⟨a0, a1, a2, a3, b1, b2, o1, o2, ea, c1, c2, p1, p2, eb, r1, r2, z⟩ := h.2.2.2.2.2 j hj
  obtain ⟨x1, x2⟩ := nI_rn (n := 7) b1 b2 rfl
  obtain ⟨y1, y2⟩ := nI_rn (n := 2) o1 o2 rfl
  obtain ⟨u1, u2⟩ := nI_rn (n := 7) c1 c2 rfl
  obtain ⟨v1, v2⟩ := nI_rn (n := 3) p1 p2 rfl
  obtain ⟨q1, q2⟩ := nI_rn (n := 4) r1 r2 rfl
  generalize r_n (I 85 (76 + 8 * (n - 1 - j) + 4)) = bA at *
  generalize r_n (I 85 (76 + 8 * (n - 1 - j) + 5)) = oA at *
  generalize r_n (I 85 (76 + 8 * (n - 1 - j) + 6)) = bB at *
  generalize r_n (I 85 (76 + 8 * (n - 1 - j) + 7)) = oB at *
  generalize r_n (I 85 (76 + 8 * (n - 1 - j) + 2)) = rr at *
  rw [y1, x1, n8, nI_mul, nI_add] at ea
  rw [v1, u1, n8, nI_mul, nI_add] at eb
  rw [v1, u1] at z
  refine ⟨rr, oA * 8 + bA, if oB = 3 then 24 else oB * 8 + bB, q2, by omega, by split <;> omega, ⟨a2.trans q1, ea, ?_⟩, ⟨q1, ?_, ?_⟩, ?_⟩
  · refine eb.trans ?_
    by_cases c : oB = 3
    · have zz := z (by rw [c]; rfl)
      have : bB = 0 := (nI_eq (b := 0) (by omega) (by decide)).mp zz
      rw [if_pos c, c, this]
    · rw [if_neg c]
  · rw [show (oA * 8 + bA) % 8 = bA by omega]
    exact x1
  · rw [show (oA * 8 + bA) / 8 = oA by omega]
    exact y1
  · by_cases c : oB = 3
    · rw [if_pos c]
      refine Or.inl ⟨rfl, ?_⟩
      rw [← c]
      exact v1
    · rw [if_neg c]
      refine Or.inr ⟨by omega, ?_, ?_⟩
      · rw [show (oB * 8 + bB) % 8 = bB by omega]
        exact u1
      · rw [show (oB * 8 + bB) / 8 = oB by omega]
        exact v1
def aP (I : e_I) (g w u : Nat) (V : Nat → Nat) (j : Nat) : Nat := r_n (lgC I g w j 2) * u + V (r_n (lgC I g w j 5))
def aN (I : e_I) (g w : Nat) (V : Nat → Nat) (j : Nat) : Nat := V (r_n (lgC I g w j 4))
theorem C_addedBy {I : e_I} {L : e_L} {g n w j k sc : Nat} {V : Nat → Nat} (h : LW I g n w) (hj : j < n) (hk : k ≤ 5) (hu : c_U L sc) (hV : c_R L k V) : f_X1_addedBy g (nI j) (nI k) I L = some (lN (aP I g w (sc ^ k) V j) - lN (aN I g w V j)) := by
  obtain ⟨r, ah, bh, hr, ha, hb, ⟨c2, c4, c5⟩, _⟩ := LW_row h hj
  unfold f_X1_addedBy aP aN
  rw [show f_X0_noted g (nI j) 2 I = some (lgC I g w j 2) from C_noted (k := 2) h hj (by decide), r_b1, C_unit hu hk, r_b1, e_lt, show f_X0_noted g (nI j) 5 I = some (lgC I g w j 5) from C_noted (k := 5) h hj (by decide), r_b1, c5, C_tableAt hV hk hb, r_b1, show f_X0_noted g (nI j) 4 I = some (lgC I g w j 4) from C_noted (k := 4) h hj (by decide), r_b1, c4, C_tableAt hV hk (by omega), r_b1, c2, nI_l (by omega), lN_mul, lN_add, nI_r (by omega), nI_r (by omega), nI_r (by omega)]
theorem M_addedBy {I J : e_I} {L : e_L} {g n w j u : Nat} {V : Nat → Nat} (h : LW J g n w) (h0 : LW I g n w) (he : ∀ k, lgC I g w j k = lgC J g w j k) (hj : j < n) (hu : L 83 26 = lN u) (hV : ∀ q, q < 24 → L 89 q = lN (V q)) (hV0 : V 24 = 0) : f_X8_addedBy (nI j) J L = some (lN (aP I g w u V j) - lN (aN I g w V j)) := by
  obtain ⟨r, ah, bh, hr, ha, hb, ⟨c2, c4, c5⟩, ⟨m2, m4, m5⟩, m67⟩ := LW_row h hj
  have l : ∀ k, k < 8 → f_X8_logged (nI j) (nI k) J = some (lgM J n j k) := fun k hk => M_logged h hj hk
  have e38 : ∀ x, x = V bh → f_X8_addedBy_38 J L (nI j) (lN x) = some (lN (aP I g w u V j) - lN (aN I g w V j)) := fun x hx => by
    have ix : (8 : Int32) * nI (ah / 8) + nI (ah % 8) = nI ah := by
      rw [n8, nI_mul, nI_add]
      congr 1
      omega
    unfold f_X8_addedBy_38 e_as aP aN
    rw [show f_X8_logged (nI j) 2 J = _ from l 2 (by decide), r_b1, show f_X8_logged (nI j) 5 J = _ from l 5 (by decide), r_b1, show f_X8_logged (nI j) 4 J = _ from l 4 (by decide), r_b1, m5, m4, ix, if_pos (nI_ix ha (by omega)), nI_clamp (by omega), m2, hu, hV ah ha, nI_l (by omega), lN_mul, lN_add, he, he, he, c2, c4, c5, nI_r (by omega), nI_r (by omega), nI_r (by omega), hx]
  unfold f_X8_addedBy
  rw [show f_X8_logged (nI j) 7 J = _ from l 7 (by decide), r_b1]
  rcases m67 with ⟨rfl, m7⟩ | ⟨hb2, m6, m7⟩
  · rw [m7, if_neg (fun n => n rfl)]
    exact e38 0 hV0.symm
  · have ix : (8 : Int32) * nI (bh / 8) + nI (bh % 8) = nI bh := by
      rw [n8, nI_mul, nI_add]
      congr 1
      omega
    unfold e_as
    rw [m7, if_pos (show nI (bh / 8) ≠ 3 from nI_n (b := 3) (by omega) (by omega) (by decide)), r_b1, show f_X8_logged (nI j) 6 J = _ from l 6 (by decide), r_b1, m6, ix, if_pos (nI_ix hb2 (by omega)), nI_clamp (by omega), hV bh hb2]
    exact e38 _ rfl
theorem lN_acc {A B p q : Nat} : (lN A - lN B) + (lN p - lN q) = lN (A + p) - lN (B + q) := by
  rw [← lN_add, ← lN_add, Int64.sub_eq_add_neg, Int64.sub_eq_add_neg, Int64.sub_eq_add_neg, Int64.neg_add, Int64.sub_eq_add_neg]
  ac_rfl
theorem lN_diff {P N : Nat} (hP : P < 2 ^ 62) (hN : N < 2 ^ 62) : ∃ A, A < 2 ^ 62 ∧ (lN P - lN N = lN A ∨ (lN P - lN N < 0 ∧ -(lN P - lN N) = lN A)) := by
  by_cases h : N ≤ P
  · exact ⟨P - N, by omega, Or.inl (lN_sub h)⟩
  · refine ⟨N - P, by omega, Or.inr ⟨?_, ?_⟩⟩
    · have e : lN P - lN N = -(lN (N - P)) := by
        rw [← lN_sub (show P ≤ N by omega), Int64.neg_sub]
      rw [e, Int64.lt_iff_toInt_lt, Int64.toInt_neg, lN_toInt' (by omega)]
      have z : (0 : Int64).toInt = 0 := by decide
      rw [z, Int.bmod_eq_of_le (by omega) (by omega)]
      omega
    · rw [Int64.neg_sub, lN_sub (by omega)]
def aI (b : Int32) (I : e_I) (g w : Nat) (x : Nat → Nat) (j : Nat) : Nat := if b = -1 ∨ lgC I g w j 0 = b then x j else 0
theorem C_together {I : e_I} {L : e_L} {n w k sc : Nat} {V : Nat → Nat} {b : Int32} (h : LW I 23 n w) (hk : k ≤ 5) (hu : c_U L sc) (hV : c_R L k V) : f_X7_addedTogether_17 b (nI k) (fun (v3_3 : Int64) (I_4 : e_I) (L_5 : e_L) => some (v3_3, I_4, L_5)) e_FU 0 0 I L = some (lN (hs (aI b I 23 w (aP I 23 w (sc ^ k) V)) n) - lN (hs (aI b I 23 w (aN I 23 w V)) n), I, L) := by
  have n40 := h.2.2.1
  have key : ∀ m i, i ≤ n → n - i < m → f_X7_addedTogether_17 b (nI k) (fun (v3_3 : Int64) (I_4 : e_I) (L_5 : e_L) => some (v3_3, I_4, L_5)) m (lN (hs (aI b I 23 w (aP I 23 w (sc ^ k) V)) i) - lN (hs (aI b I 23 w (aN I 23 w V)) i)) (nI i) I L = some (lN (hs (aI b I 23 w (aP I 23 w (sc ^ k) V)) n) - lN (hs (aI b I 23 w (aN I 23 w V)) n), I, L) := by
    intro m
    induction m with
    | zero => intro i _ h; omega
    | succ m ih =>
      intro i hi hm
      rw [f_X7_addedTogether_17, h.1]
      by_cases q : i = n
      · subst q
        rw [if_pos (Int32.le_refl _)]
      · have hin : i < n := by omega
        have nx := ih (i + 1) (by omega) (by omega)
        have s1 : hs (aI b I 23 w (aP I 23 w (sc ^ k) V)) (i + 1) = hs (aI b I 23 w (aP I 23 w (sc ^ k) V)) i + aI b I 23 w (aP I 23 w (sc ^ k) V) i := rfl
        have s2 : hs (aI b I 23 w (aN I 23 w V)) (i + 1) = hs (aI b I 23 w (aN I 23 w V)) i + aI b I 23 w (aN I 23 w V) i := rfl
        have take : b = -1 ∨ lgC I 23 w i 0 = b → f_X7_addedTogether_48 b (nI k) (fun v3 v5 I L => f_X7_addedTogether_17 b (nI k) (fun (v3_3 : Int64) (I_4 : e_I) (L_5 : e_L) => some (v3_3, I_4, L_5)) m v3 v5 I L) (fun (v3_3 : Int64) (I_4 : e_I) (L_5 : e_L) => some (v3_3, I_4, L_5)) (lN (hs (aI b I 23 w (aP I 23 w (sc ^ k) V)) i) - lN (hs (aI b I 23 w (aN I 23 w V)) i)) (nI i) I L = some (lN (hs (aI b I 23 w (aP I 23 w (sc ^ k) V)) n) - lN (hs (aI b I 23 w (aN I 23 w V)) n), I, L) := fun hc => by
          have t1 : aI b I 23 w (aP I 23 w (sc ^ k) V) i = aP I 23 w (sc ^ k) V i := if_pos hc
          have t2 : aI b I 23 w (aN I 23 w V) i = aN I 23 w V i := if_pos hc
          unfold f_X7_addedTogether_48 f_X7_addedTogether_65
          rw [C_addedBy h hin hk hu hV, r_b1, e_lt, lN_acc, e_lt, nI_1 i, ← t1, ← t2, ← s1, ← s2]
          exact nx
        rw [if_neg (c_ge hin (by omega))]
        by_cases z : b = -1
        · rw [if_pos z]
          exact take (Or.inl z)
        · rw [if_neg z, show f_X0_noted 23 (nI i) 0 I = some (lgC I 23 w i 0) from C_noted (k := 0) h hin (by decide), r_b1]
          by_cases y : lgC I 23 w i 0 = b
          · rw [if_neg (fun n => n y)]
            exact take (Or.inr y)
          · have t1 : aI b I 23 w (aP I 23 w (sc ^ k) V) i = 0 := if_neg (fun c => by rcases c with c | c; exact z c; exact y c)
            have t2 : aI b I 23 w (aN I 23 w V) i = 0 := if_neg (fun c => by rcases c with c | c; exact z c; exact y c)
            rw [t1] at s1
            rw [t2] at s2
            rw [if_pos y]
            unfold f_X7_addedTogether_65
            rw [e_lt, nI_1 i]
            rw [s1, s2] at nx
            exact nx
  have k0 := key e_FU 0 (by omega) (wp_FU (by omega))
  have e0 : lN (hs (aI b I 23 w (aP I 23 w (sc ^ k) V)) 0) - lN (hs (aI b I 23 w (aN I 23 w V)) 0) = 0 := show lN 0 - lN 0 = 0 by decide
  rw [e0] at k0
  exact k0
theorem M_together {I J : e_I} {L : e_L} {n w u : Nat} {V : Nat → Nat} {b v : Int32} (h : LW J 23 n w) (h0 : LW I 23 n w) (he : ∀ j k, lgC I 23 w j k = lgC J 23 w j k) (hu : L 83 26 = lN u) (hV : ∀ q, q < 24 → L 89 q = lN (V q)) (hV0 : V 24 = 0) (kk : Int64 → e_I → e_L → Option (Int64 × e_I × e_L)) : f_X8_addedByAll_12 b v kk e_FU 0 0 J L = kk (lN (hs (aI b I 23 w (aP I 23 w u V)) n) - lN (hs (aI b I 23 w (aN I 23 w V)) n)) J L := by
  have n40 := h.2.2.1
  have key : ∀ m i, i ≤ n → n - i < m → f_X8_addedByAll_12 b v kk m (lN (hs (aI b I 23 w (aP I 23 w u V)) i) - lN (hs (aI b I 23 w (aN I 23 w V)) i)) (nI i) J L = kk (lN (hs (aI b I 23 w (aP I 23 w u V)) n) - lN (hs (aI b I 23 w (aN I 23 w V)) n)) J L := by
    intro m
    induction m with
    | zero => intro i _ h; omega
    | succ m ih =>
      intro i hi hm
      have e75 : J 85 (75 : Int32).toNatClampNeg = nI n := h.2.1
      rw [f_X8_addedByAll_12, e75]
      by_cases q : i = n
      · subst q
        rw [if_pos (Int32.le_refl _)]
      · have hin : i < n := by omega
        have nx := ih (i + 1) (by omega) (by omega)
        have s1 : hs (aI b I 23 w (aP I 23 w u V)) (i + 1) = hs (aI b I 23 w (aP I 23 w u V)) i + aI b I 23 w (aP I 23 w u V) i := rfl
        have s2 : hs (aI b I 23 w (aN I 23 w V)) (i + 1) = hs (aI b I 23 w (aN I 23 w V)) i + aI b I 23 w (aN I 23 w V) i := rfl
        have take : b = -1 ∨ lgC I 23 w i 0 = b → f_X8_addedByAll_42 b v (fun v4 v6 I L => f_X8_addedByAll_12 b v kk m v4 v6 I L) kk (nI i) (lN (hs (aI b I 23 w (aP I 23 w u V)) i) - lN (hs (aI b I 23 w (aN I 23 w V)) i)) J L = kk (lN (hs (aI b I 23 w (aP I 23 w u V)) n) - lN (hs (aI b I 23 w (aN I 23 w V)) n)) J L := fun hc => by
          have t1 : aI b I 23 w (aP I 23 w u V) i = aP I 23 w u V i := if_pos hc
          have t2 : aI b I 23 w (aN I 23 w V) i = aN I 23 w V i := if_pos hc
          unfold f_X8_addedByAll_42 f_X8_addedByAll_52
          rw [M_addedBy h h0 (he i) hin hu hV hV0, r_b1, e_lt, lN_acc, e_lt, nI_1 i, ← t1, ← t2, ← s1, ← s2]
          exact nx
        rw [if_neg (c_ge hin (by omega))]
        by_cases z : b = -1
        · rw [if_pos z]
          exact take (Or.inl z)
        · have el : lgM J n i 0 = lgC I 23 w i 0 := (lg_eq h hin (by decide)).symm.trans (he i 0).symm
          rw [if_neg z, show f_X8_logged (nI i) 0 J = some (lgM J n i 0) from M_logged (k := 0) h hin (by decide), r_b1, el]
          by_cases y : lgC I 23 w i 0 = b
          · rw [if_neg (fun n => n y)]
            exact take (Or.inr y)
          · have t1 : aI b I 23 w (aP I 23 w u V) i = 0 := if_neg (fun c => by rcases c with c | c; exact z c; exact y c)
            have t2 : aI b I 23 w (aN I 23 w V) i = 0 := if_neg (fun c => by rcases c with c | c; exact z c; exact y c)
            rw [t1] at s1
            rw [t2] at s2
            rw [if_pos y]
            unfold f_X8_addedByAll_52
            have z0 : lN (hs (aI b I 23 w (aP I 23 w u V)) i) - lN (hs (aI b I 23 w (aN I 23 w V)) i) + 0 = lN (hs (aI b I 23 w (aP I 23 w u V)) i) - lN (hs (aI b I 23 w (aN I 23 w V)) i) := Int64.add_zero _
            rw [z0, e_lt, e_lt, nI_1 i]
            rw [s1, s2] at nx
            exact nx
  have k0 := key e_FU 0 (by omega) (wp_FU (by omega))
  have e0 : lN (hs (aI b I 23 w (aP I 23 w u V)) 0) - lN (hs (aI b I 23 w (aN I 23 w V)) 0) = 0 := show lN 0 - lN 0 = 0 by decide
  rw [e0] at k0
  exact k0
theorem hs_leB {g : Nat → Nat} {B : Nat} : ∀ n, (∀ i, i < n → g i ≤ B) → hs g n ≤ n * B
  | 0, _ => by simp [hs]
  | n + 1, h => by
    have a := hs_leB n (fun i hi => h i (by omega))
    have b := h n (by omega)
    show hs g n + g n ≤ (n + 1) * B
    rw [Nat.add_mul]
    omega
