-- the relation of the class's memory and the model's
abbrev r_n (x : Int32) : Nat := x.toNatClampNeg
-- the cells that stay from call to call
def r_live (a i : Nat) : Bool := match a with
  | 0 => i == 8 || i == 9 || i == 10
  | 1 => i == 3
  | 5 => true
  | 6 => true
  | 8 => true
  | 9 => i == 1 || i == 2
  | 13 => true
  | 14 => true
  | 83 => i == 1 || i == 2 || i == 3 || i == 5 || i == 6 || i == 33
  | 84 => true
  | 85 => true
  | 87 => true
  | 96 => true
  | _ => Nat.ble 23 a && Nat.ble a 82 && !(Nat.ble 28 a && Nat.ble a 32)
-- one row of the log: slot s of the game's ring, place q of the model's row
def r_note (C M : Nat → Int32) (s q : Nat) : Prop :=
  C (s * 6) = M q ∧ C (s * 6 + 1) = M (q + 1) ∧ C (s * 6 + 2) = M (q + 2) ∧ C (s * 6 + 3) = M (q + 3)
  ∧ 0 ≤ M (q + 4) ∧ M (q + 4) ≤ 7 ∧ 0 ≤ M (q + 5) ∧ M (q + 5) ≤ 2 ∧ C (s * 6 + 4) = M (q + 5) * 8 + M (q + 4)
  ∧ 0 ≤ M (q + 6) ∧ M (q + 6) ≤ 7 ∧ 0 ≤ M (q + 7) ∧ M (q + 7) ≤ 3 ∧ C (s * 6 + 5) = M (q + 7) * 8 + M (q + 6)
  ∧ 0 ≤ M (q + 2) ∧ M (q + 2) ≤ 4 ∧ (M (q + 7) = 3 → M (q + 6) = 0)
-- a game object (its fields F, its rows ch ru od no) and a row M of the model, read from place o
def r_GR (F ch ru od no M : Nat → Int32) (o t : Nat) : Prop :=
  (F 0 = M o ∧ 1 ≤ M o ∧ M o ≤ 9)
  ∧ (∀ k, k < 5 → ru k = M (o + 1 + k))
  ∧ (1 ≤ ru 0 ∧ ru 0 ≤ 2 ∧ 2 ≤ ru 1 ∧ ru 1 ≤ 3 ∧ 0 ≤ ru 2 ∧ ru 2 ≤ 1 ∧ 0 ≤ ru 3 ∧ ru 3 ≤ 20 ∧ 1 ≤ ru 4 ∧ ru 4 ≤ 99)
  ∧ (∀ k, k < 6 * r_n (M o) → ch k = M (o + 6 + k))
  ∧ (∀ b, b < r_n (M o) → (∀ k, k < 6 → 0 ≤ ch (6 * b + k) ∧ ch (6 * b + k) ≤ 20) ∧ ch (6 * b) + ch (6 * b + 1) + ch (6 * b + 2) + ch (6 * b + 3) + ch (6 * b + 4) + ch (6 * b + 5) = 20)
  ∧ (∀ k, k < r_n (M o) → od k = M (o + 60 + k) ∧ 0 ≤ od k ∧ od k < M o)
  ∧ (∀ j k, j < r_n (M o) → k < r_n (M o) → od j = od k → j = k)
  ∧ (F 1 = M (o + 69))
  ∧ (0 ≤ M (o + 70) ∧ M (o + 70) ≤ 7 ∧ 0 ≤ M (o + 71) ∧ M (o + 71) ≤ 2 ∧ F 2 = M (o + 71) * 8 + M (o + 70))
  ∧ (F 4 = M (o + 72) ∧ 0 ≤ F 4 ∧ F 4 < M o)
  ∧ (F 5 = M (o + 73) ∧ 0 ≤ F 5 ∧ r_n (F 5) ≤ t)
  ∧ (F 3 = M (o + 74))
  ∧ (F 6 = M (o + 75) ∧ 0 ≤ F 6 ∧ F 6 ≤ 40 ∧ 0 ≤ F 7 ∧ F 7 ≤ 39)
  ∧ (∀ j, j < r_n (F 6) → r_note no M ((r_n (F 7) + 40 - j) % 40) (o + 76 + 8 * (r_n (F 6) - 1 - j)))
def r_tape (I : e_I) : Prop :=
  (I 1 3 = I 83 5 ∧ 0 ≤ I 1 3 ∧ I 1 3 ≤ 500)
  ∧ (∀ i, i < r_n (I 1 3) → I 84 i = I 5 i &&& 255 ∧ I 5 i = (I 5 i).toInt8.toInt32)
  ∧ (∀ i, i < 6 → I 6 i = k_U [277693196, 65782373, 4723, 10494723, 400712, 29637648] i)
def r_told (I : e_I) : Prop := I 0 8 = I 83 1 ∧ I 0 9 = I 83 2 ∧ (I 0 8 = 4 → I 0 10 = I 83 3) ∧ (I 0 8 ≠ 4 → I 83 3 = -1)
def r_past (I : e_I) (t : Nat) : Prop :=
  (I 9 2 = I 83 33 ∧ 0 ≤ I 9 2 ∧ I 9 2 ≤ 10 ∧ 0 ≤ I 9 1 ∧ I 9 1 ≤ 9)
  ∧ (∀ j, j < r_n (I 9 2) → ∀ g, g = 33 + 5 * ((r_n (I 9 1) + 9 - j) % 10) → r_GR (I g) (I (g + 1)) (I (g + 2)) (I (g + 3)) (I (g + 4)) (I 96) (396 * (r_n (I 9 2) - 1 - j)) (100 * t))
theorem r_fault {I : e_I} {L : e_L} {Rel Rel2 : e_I → e_L → Prop} (hR : ∀ I L, Rel I L → r_told I) (hK : ∀ I L, Rel I L → Rel2 (e_ui I 83 0 0) L) : ST_fault Rel Rel2 := by
  intro I L h
  obtain ⟨h1, h2, h3, h4⟩ := hR I L h
  exact ⟨I 0 9, e_ui I 83 0 0, rfl, (by rw [h2]; rfl), hK I L h⟩
