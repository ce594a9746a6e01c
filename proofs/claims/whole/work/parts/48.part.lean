-- FRACTIONS in lowest terms
theorem lN_div {a b : Nat} (hb : 0 < b) (ha : a < 2 ^ 63) (hb2 : b < 2 ^ 63) : lN a / lN b = lN (a / b) := by
  have hd : a / b < 2 ^ 63 := Nat.lt_of_le_of_lt (Nat.div_le_self a b) ha
  refine Int64.toInt_inj.mp ?_
  rw [lg_ldiv_nonneg (by rw [lN_toInt' ha]; omega) (by rw [lN_toInt' hb2]; omega), lN_toInt' ha, lN_toInt' hb2, lN_toInt' hd]
  exact (Int.natCast_ediv a b).symm
theorem lN_rm {a b : Nat} (hb : 0 < b) (ha : a < 2 ^ 63) (hb2 : b < 2 ^ 63) : e_rml (lN a) (lN b) = lN (a % b) := by
  unfold e_rml
  have h := Nat.div_add_mod a b
  have h2 : b * (a / b) = a / b * b := Nat.mul_comm _ _
  rw [lN_div hb ha hb2, lN_mul, lN_sub (by omega)]
  congr 1
  omega
theorem lN_ne0 {a : Nat} (h : 0 < a) (ha : a < 2 ^ 63) : ¬ lN a = 0 := fun q => by
  have := (lN_eq' (b := 0) ha (by decide)).mp q
  omega
theorem lN_c0 {a : Nat} (h : 0 < a) (ha : a < 2 ^ 63) : ¬ lg_cmp (lN a) 0 = 0 := fun q => lN_ne0 h ha ((lg_cmp_eq _ _).mp q)
theorem gcd_step {a b : Nat} : Nat.gcd a b = Nat.gcd b (a % b) := by
  rw [Nat.gcd_comm a b, Nat.gcd_rec b a, Nat.gcd_comm]
theorem mod_half {a b m : Nat} (h0 : 0 < b) (h1 : 0 < a % b) (h : b < 2 ^ (m + 1)) : b % (a % b) < 2 ^ m := by
  have k1 : a % b < b := Nat.mod_lt _ h0
  have k2 : b % (a % b) < a % b := Nat.mod_lt _ h1
  have k3 := Nat.div_add_mod b (a % b)
  have k4 : 1 ≤ b / (a % b) := (Nat.one_le_div_iff h1).mpr (by omega)
  have k5 : (a % b) * 1 ≤ (a % b) * (b / (a % b)) := Nat.mul_le_mul_left _ k4
  rw [Nat.pow_succ] at h
  omega
theorem C_gcd : ∀ m a b n i, a < 2 ^ 63 → b < 2 ^ 63 → b < 2 ^ m → i + 2 * m ≤ 100 → 100 - i < n → f_X7_commonDivisor_3 (fun (v0_1 : Int64) => some v0_1) n (lN a) (lN b) (nI i) = some (lN (Nat.gcd a b))
  | 0, a, b, n, i, ha, _, hb, hi, hn => by
    have e : b = 0 := by omega
    subst e
    obtain ⟨n, rfl⟩ : ∃ k, n = k + 1 := ⟨n - 1, by omega⟩
    rw [f_X7_commonDivisor_3, Nat.gcd_zero_right]
    by_cases q : nI i ≥ 100
    · rw [if_pos q]
    · rw [if_neg q, if_pos (by decide)]
  | m + 1, a, b, n, i, ha, hb2, hb, hi, hn => by
    obtain ⟨n, rfl⟩ : ∃ k, n = k + 2 := ⟨n - 2, by omega⟩
    have i1 : ¬ nI i ≥ 100 := c_ge (N := 100) (by omega) (by decide)
    have i2 : ¬ nI (i + 1) ≥ 100 := c_ge (N := 100) (by omega) (by decide)
    rw [f_X7_commonDivisor_3, if_neg i1]
    by_cases z : b = 0
    · subst z
      rw [if_pos (by decide), Nat.gcd_zero_right]
    · have hb0 : 0 < b := by omega
      unfold e_as
      rw [if_neg (lN_c0 hb0 hb2), if_pos (lN_ne0 hb0 hb2), e_lt, lN_rm hb0 ha hb2, e_lt, nI_1 i, f_X7_commonDivisor_3, if_neg i2, gcd_step]
      have hr : a % b < b := Nat.mod_lt _ hb0
      by_cases y : a % b = 0
      · rw [y, if_pos (by decide), Nat.gcd_zero_right]
      · unfold e_as
        rw [if_neg (lN_c0 (by omega) (by omega)), if_pos (lN_ne0 (by omega) (by omega)), e_lt, lN_rm (by omega) hb2 (by omega), e_lt, nI_1 (i + 1), gcd_step]
        have hr2 : b % (a % b) < a % b := Nat.mod_lt _ (by omega)
        exact C_gcd m (a % b) (b % (a % b)) n (i + 1 + 1) (by omega) (by omega) (mod_half hb0 (by omega) hb) (by omega) (by omega)
theorem M_gcd : ∀ m a b n, a < 2 ^ 63 → b < 2 ^ 63 → b < 2 ^ m → 2 * m < n → f_X8_common_28 (fun (v4_1 : Int64) => some v4_1) n (lN a) (lN b) = some (lN (Nat.gcd a b))
  | 0, a, b, n, ha, _, hb, hn => by
    have e : b = 0 := by omega
    subst e
    obtain ⟨n, rfl⟩ : ∃ k, n = k + 1 := ⟨n - 1, by omega⟩
    rw [f_X8_common_28, Nat.gcd_zero_right, if_pos (by decide)]
  | m + 1, a, b, n, ha, hb2, hb, hn => by
    obtain ⟨n, rfl⟩ : ∃ k, n = k + 2 := ⟨n - 2, by omega⟩
    rw [f_X8_common_28]
    by_cases z : b = 0
    · subst z
      rw [if_pos (by decide), Nat.gcd_zero_right]
    · have hb0 : 0 < b := by omega
      unfold e_as
      rw [if_neg (lN_c0 hb0 hb2), if_pos (lN_ne0 hb0 hb2), e_lt, lN_rm hb0 ha hb2, f_X8_common_28, gcd_step]
      have hr : a % b < b := Nat.mod_lt _ hb0
      by_cases y : a % b = 0
      · rw [y, if_pos (by decide), Nat.gcd_zero_right]
      · unfold e_as
        rw [if_neg (lN_c0 (by omega) (by omega)), if_pos (lN_ne0 (by omega) (by omega)), e_lt, lN_rm (by omega) hb2 (by omega), gcd_step]
        have hr2 : b % (a % b) < a % b := Nat.mod_lt _ (by omega)
        exact M_gcd m (a % b) (b % (a % b)) n (by omega) (by omega) (mod_half hb0 (by omega) hb) (by omega)
theorem r_part {x : Int64} {A B : Nat} {w : Int32} (hA : A < 2 ^ 62) (hB : B < 2 ^ 48) (hB0 : 0 < B) (hx : x = lN A ∨ (x < 0 ∧ -x = lN A)) : ∃ r, f_X7_part x (lN B) w = some r ∧ f_X8_part x (lN B) w = some r := by
  have g0 : 0 < Nat.gcd A B := Nat.gcd_pos_of_pos_right _ hB0
  have gB : Nat.gcd A B ≤ B := Nat.gcd_le_right _ hB0
  have c7 : f_X7_commonDivisor (lN A) (lN B) = some (lN (Nat.gcd A B)) := C_gcd 48 A B e_FU 0 (by omega) (by omega) hB (by decide) (wp_FU (by decide))
  have c8 : f_X8_common_26 (lN B) (lN A) = some (lN (Nat.gcd A B)) := by
    rw [Nat.gcd_comm]
    exact M_gcd 62 B A e_FU (by omega) (by omega) hA (wp_FU (by decide))
  have n0 : ¬ lN (Nat.gcd A B) = 0 := lN_ne0 g0 (by omega)
  have cc : lg_cmp (lN (Nat.gcd A B)) 0 ≠ 0 := lN_c0 g0 (by omega)
  have b0 : lg_cmp (lN B) 0 ≥ 0 := (lg_cmp_ge _ _).mpr ((lN_le' (a := 0) (by decide) (by omega)).mpr (by omega))
  have a0 : lg_cmp (lN A) 0 ≥ 0 := (lg_cmp_ge _ _).mpr ((lN_le' (a := 0) (by decide) (by omega)).mpr (by omega))
  have d8 : f_X8_common (lN B) x = some (lN (Nat.gcd A B)) := by
    unfold f_X8_common f_X8_common_12
    rw [if_pos b0]
    rcases hx with hx | ⟨hx, hy⟩
    · rw [hx, if_pos a0]
      exact c8
    · rw [if_neg (fun n => absurd ((lg_cmp_ge _ _).mp n) (Int64.not_le.mpr hx)), hy]
      exact c8
  have d7 : f_X7_part x (lN B) w = f_X7_part_12 x (lN B) w (lN A) := by
    unfold f_X7_part
    rcases hx with hx | ⟨hx, hy⟩
    · rw [hx, if_pos a0]
    · rw [if_neg (fun n => absurd ((lg_cmp_ge _ _).mp n) (Int64.not_le.mpr hx)), hy]
  refine ⟨(if w ≠ 0 then lN B else x) / lN (Nat.gcd A B), ?_, ?_⟩
  · rw [d7]
    unfold f_X7_part_12 f_X7_part_41 f_X7_part_44 e_as
    rw [c7, r_b1, if_pos cc, if_pos n0, if_pos n0]
    by_cases q : w ≠ 0
    · rw [if_pos q, if_pos q]
    · rw [if_neg q, if_neg q]
  · unfold f_X8_part f_X8_part_10 e_as
    rw [d8, r_b1, if_pos n0, r_b1, if_pos n0]
    by_cases q : w ≠ 0
    · rw [if_pos q, if_pos q]
    · rw [if_neg q, if_neg q]
-- an order of all has everyone
theorem pig : ∀ (c : Nat) (O : Nat → Nat), (∀ i, i < c → O i < c) → (∀ i j, i < c → j < c → O i = O j → i = j) → ∀ b, b < c → ∃ p, p < c ∧ O p = b
  | 0, _, _, _ => fun b h => by omega
  | c + 1, O, h1, h2 => by
    have hne : ∀ i, i < c → O i ≠ O c := fun i hi q => by
      have := h2 i c (by omega) (by omega) q
      omega
    have ih := pig c (fun i => if O i = c then O c else O i) (fun i hi => by
      show (if O i = c then O c else O i) < c
      have a := h1 i (by omega)
      have b := h1 c (by omega)
      have n := hne i hi
      by_cases q : O i = c
      · rw [if_pos q]
        omega
      · rw [if_neg q]
        omega) (fun i j hi hj e => by
      have e : (if O i = c then O c else O i) = (if O j = c then O c else O j) := e
      have ni := hne i hi
      have nj := hne j hj
      refine h2 i j (by omega) (by omega) ?_
      by_cases q : O i = c
      · rw [if_pos q] at e
        by_cases q2 : O j = c
        · omega
        · rw [if_neg q2] at e
          omega
      · rw [if_neg q] at e
        by_cases q2 : O j = c
        · rw [if_pos q2] at e
          omega
        · rw [if_neg q2] at e
          omega)
    intro b hb
    by_cases q : b = O c
    · exact ⟨c, by omega, q.symm⟩
    · by_cases q2 : b = c
      · have hm : O c < c := by
          have := h1 c (by omega)
          omega
        obtain ⟨p, hp, e⟩ := ih (O c) hm
        have e : (if O p = c then O c else O p) = O c := e
        refine ⟨p, by omega, ?_⟩
        by_cases q3 : O p = c
        · omega
        · rw [if_neg q3] at e
          exact absurd e (hne p hp)
      · obtain ⟨p, hp, e⟩ := ih b (by omega)
        have e : (if O p = c then O c else O p) = b := e
        refine ⟨p, by omega, ?_⟩
        by_cases q3 : O p = c
        · rw [if_pos q3] at e
          omega
        · rw [if_neg q3] at e
          exact e
