-- BEST: is one picked already
theorem C_pick {I : e_I} {p x : Nat} {D : Nat → Nat} (hp : p ≤ 3) (hx : x < 9) (hD : ∀ y, y < 3 → I 20 y = nI (D y) ∧ D y < 9) : ((∃ y, y < p ∧ D y = x) ∧ f_X3_isPicked (nI p) (nI x) I = some 1) ∨ ((∀ y, y < p → D y ≠ x) ∧ f_X3_isPicked (nI p) (nI x) I = some 0) := by
  have key : ∀ m y n, y + m = p → m < n → (∀ z, z < y → D z ≠ x) → ((∃ y, y < p ∧ D y = x) ∧ f_X3_isPicked_2 I (nI p) (nI x) (fun (_ : Unit) => some 0) (fun (_ : Unit) => some 1) n (nI y) = some 1) ∨ ((∀ y, y < p → D y ≠ x) ∧ f_X3_isPicked_2 I (nI p) (nI x) (fun (_ : Unit) => some 0) (fun (_ : Unit) => some 1) n (nI y) = some 0) := by
    intro m
    induction m with
    | zero =>
      intro y n h0 hm hz
      obtain ⟨n', rfl⟩ : ∃ k, n = k + 1 := ⟨n - 1, by omega⟩
      have h0 : y = p := h0
      subst h0
      refine Or.inr ⟨hz, ?_⟩
      have le : nI y ≥ nI y := nI_le (Nat.le_refl y) (by omega)
      rw [f_X3_isPicked_2, if_pos le]
    | succ m ih =>
      intro y n h0 hm hz
      obtain ⟨n', rfl⟩ : ∃ k, n = k + 1 := ⟨n - 1, by omega⟩
      have hy : y < p := by omega
      obtain ⟨d1, d2⟩ := hD y (by omega)
      have g1 : ¬ nI y ≥ nI p := c_ge hy (by omega)
      have g2 : ¬ nI y ≥ 3 := c_ge (N := 3) (by omega) (by decide)
      have ix : e_ix (nI y) 3 = true := nI_ix (by omega) (by omega)
      rw [f_X3_isPicked_2, if_neg g1, if_neg g2]
      unfold e_as
      rw [if_pos ix, nI_clamp (n := y) (by omega), d1]
      by_cases q : D y = x
      · refine Or.inl ⟨⟨y, hy, q⟩, ?_⟩
        rw [q, if_neg (fun n => n rfl)]
      · rw [if_pos (nI_n q (by omega) (by omega)), let_eq, nI_1 y]
        exact ih (y + 1) n' (by omega) (by omega) (fun z hz2 => by
          by_cases w : z = y
          · rw [w]
            exact q
          · exact hz z (by omega))
  unfold f_X3_isPicked
  exact key p 0 e_FU (by omega) (wp_FU (by omega)) (fun z hz => by omega)
