-- BEST: rows of all batters: the first ones chosen, the rest ascending
def pre (K c i : Nat) (R : Nat → Nat) : Prop := (∀ p, p < i → R p < c) ∧ (∀ p q, p < i → q < i → R p = R q → p = q) ∧ ∀ p, K ≤ p → p < i → ∀ y, y < R p → ∃ q, q < p ∧ R q = y
abbrev leaf (K c : Nat) (R : Nat → Nat) : Prop := pre K c c R
def dg (K c j : Nat) (R : Nat → Nat) : Nat := if K ≤ j then 0 else R (j % c)
def cod (K c : Nat) (R : Nat → Nat) : Nat := (R 0 * 9 + dg K c 1 R) * 9 + dg K c 2 R
theorem inj_le {n c : Nat} {T : Nat → Nat} (h1 : ∀ p, p < n → T p < c) (h2 : ∀ p q, p < n → q < n → T p = T q → p = q) : n ≤ c := by
  rcases Nat.lt_or_ge c n with h | h
  · obtain ⟨p, hp, e⟩ := pig c T (fun i hi => h1 i (by omega)) (fun i j hi hj e => h2 i j (by omega) (by omega) e) (T c) (h1 c h)
    have := h2 p c (by omega) h e
    omega
  · exact h
theorem sur_le {n c : Nat} {T : Nat → Nat} (h : ∀ y, y < c → ∃ p, p < n ∧ T p = y) : c ≤ n := by
  have g0 : ∀ y : Nat, ∃ p : Nat, y < c → p < n ∧ T p = y := fun y => by
    rcases Nat.lt_or_ge y c with z | z
    · obtain ⟨p, hp⟩ := h y z
      exact ⟨p, fun _ => hp⟩
    · exact ⟨0, fun z2 => by omega⟩
  obtain ⟨g, hg⟩ := Classical.axiomOfChoice g0
  refine inj_le (T := g) (fun p hp => (hg p hp).1) (fun p q hp hq e => ?_)
  have a := (hg p hp).2
  have b := (hg q hq).2
  rw [e] at a
  omega
theorem leaf_id {K c : Nat} : leaf K c (fun p => p) := ⟨fun _ h => h, fun _ _ _ _ e => e, fun _ _ _ y hy => ⟨y, hy, rfl⟩⟩
theorem dg_lt {K c j : Nat} {R : Nat → Nat} (h : leaf K c R) (c0 : 0 < c) (hc : c ≤ 9) : dg K c j R < 9 := by
  unfold dg
  by_cases q : K ≤ j
  · rw [if_pos q]
    decide
  · rw [if_neg q]
    have := h.1 (j % c) (Nat.mod_lt _ c0)
    omega
theorem dg_at {K c j : Nat} {R : Nat → Nat} (hj : j < min K c) : dg K c j R = R j := by
  unfold dg
  rw [if_neg (by omega), Nat.mod_eq_of_lt (by omega)]
theorem leaf_uniq {K c : Nat} {R T : Nat → Nat} (h : leaf K c R) (h' : leaf K c T) (e : ∀ p, p < min K c → R p = T p) : ∀ n p, p < n → p < c → R p = T p := by
  intro n
  induction n with
  | zero =>
    intro p hp
    omega
  | succ n ih =>
    intro p hp hc
    rcases Nat.lt_or_ge p K with z | z
    · exact e p (by omega)
    · rcases Nat.lt_trichotomy (R p) (T p) with y | y | y
      · obtain ⟨q, hq, eq⟩ := h'.2.2 p z hc _ y
        have := ih q (by omega) (by omega)
        have := h.2.1 q p (by omega) hc (by omega)
        omega
      · exact y
      · obtain ⟨q, hq, eq⟩ := h.2.2 p z hc _ y
        have := ih q (by omega) (by omega)
        have := h'.2.1 q p (by omega) hc (by omega)
        omega
theorem cod_pre {K c : Nat} {R T : Nat → Nat} (c0 : 0 < c) (hc : c ≤ 9) (hK : K ≤ 3) (h : leaf K c R) (h' : leaf K c T) (e : cod K c R = cod K c T) : ∀ p, p < min K c → R p = T p := by
  have a1 := dg_lt (j := 1) h c0 hc
  have a2 := dg_lt (j := 2) h c0 hc
  have b1 := dg_lt (j := 1) h' c0 hc
  have b2 := dg_lt (j := 2) h' c0 hc
  unfold cod at e
  have e0 : R 0 = T 0 := by omega
  have e1' : dg K c 1 R = dg K c 1 T := by omega
  have e2' : dg K c 2 R = dg K c 2 T := by omega
  intro p hp
  have cs : p = 0 ∨ p = 1 ∨ p = 2 := by omega
  rcases cs with rfl | rfl | rfl
  · exact e0
  · rw [dg_at hp, dg_at hp] at e1'
    exact e1'
  · rw [dg_at hp, dg_at hp] at e2'
    exact e2'
theorem leaf_cod {K c : Nat} {R T : Nat → Nat} (c0 : 0 < c) (hc : c ≤ 9) (hK : K ≤ 3) (h : leaf K c R) (h' : leaf K c T) (e : cod K c R = cod K c T) (p : Nat) (hp : p < c) : R p = T p := leaf_uniq h h' (cod_pre c0 hc hK h h' e) (p + 1) p (Nat.lt_succ_self p) hp
theorem cod_congr {K c : Nat} {R T : Nat → Nat} (c0 : 0 < c) (h : ∀ p, p < c → R p = T p) : cod K c R = cod K c T := by
  have d : ∀ j, dg K c j R = dg K c j T := fun j => by
    unfold dg
    by_cases q : K ≤ j
    · rw [if_pos q, if_pos q]
    · rw [if_neg q, if_neg q, h _ (Nat.mod_lt _ c0)]
  unfold cod
  rw [d 1, d 2, h 0 c0]
-- a row that is the smaller at the first place where they differ has the smaller code
theorem cod_lt {K c i : Nat} {R T : Nat → Nat} (c0 : 0 < c) (hc : c ≤ 9) (hK : K ≤ 3) (h1 : 1 ≤ K) (h : leaf K c R) (h' : leaf K c T) (hi : i < c) (e : ∀ p, p < i → R p = T p) (l : R i < T i) : cod K c R < cod K c T := by
  rcases Nat.lt_or_ge i K with z | z
  · have a1 := dg_lt (j := 1) h c0 hc
    have a2 := dg_lt (j := 2) h c0 hc
    unfold cod
    have cs : i = 0 ∨ i = 1 ∨ i = 2 := by omega
    rcases cs with rfl | rfl | rfl
    · omega
    · have e0 := e 0 (by decide)
      have d1 : dg K c 1 R = R 1 := dg_at (by omega)
      have d2 : dg K c 1 T = T 1 := dg_at (by omega)
      omega
    · have e0 := e 0 (by decide)
      have e1' := e 1 (by decide)
      have d1 : dg K c 1 R = R 1 := dg_at (by omega)
      have d2 : dg K c 1 T = T 1 := dg_at (by omega)
      have d3 : dg K c 2 R = R 2 := dg_at (by omega)
      have d4 : dg K c 2 T = T 2 := dg_at (by omega)
      omega
  · obtain ⟨q, hq, eq⟩ := h'.2.2 i z hi _ l
    have := e q hq
    have := h.2.1 q i (by omega) hi (by omega)
    omega
