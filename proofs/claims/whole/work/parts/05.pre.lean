/-! WHAT THE METHODS' PICTURES ARE MADE OF -/
def e_FU : Nat := 1000000
def e_rm (x y : Int32) : Int32 := x - x / y * y
def e_rml (x y : Int64) : Int64 := x - x / y * y
def e_max (x y : Int32) : Int32 := if x < y then y else x
def e_min (x y : Int32) : Int32 := if y < x then y else x
def e_maxl (x y : Int64) : Int64 := if y < x then x else y
def e_ix (j : Int32) (N : Nat) : Bool := decide (0 ≤ j.toInt ∧ j.toInt < N)
theorem e_ix_vp {j : Int32} {N : Nat} (h : e_ix j N = true) : vp_in j N := vp_in_iff.mpr (of_decide_eq_true h)
def e_isG (g : Nat) : Prop := ∃ j, j < 12 ∧ g = 23 + 5 * j
theorem isG_23 : e_isG 23 := ⟨0, by decide, rfl⟩
theorem isG_28 : e_isG 28 := ⟨1, by decide, rfl⟩
def eK (x : Int32) : Nat := 33 + 5 * (x.toNatClampNeg % 10)
theorem isG_eK (x : Int32) : e_isG (eK x) := ⟨2 + x.toNatClampNeg % 10, by omega, by unfold eK; omega⟩
theorem gR_eK {j : Int32} (h : vp_in j 10) : gR 10 j.toNatClampNeg = some (eK j) := by
  have h1 : ∀ k, k < 10 → gR 10 k = some (33 + 5 * (k % 10)) := by decide
  have h2 : j.toNatClampNeg < 10 := by
    unfold vp_in at h
    omega
  exact h1 _ h2
theorem atG {g : Nat} (h : e_isG g) : e_at gN g 0 := by
  obtain ⟨j, hj, rfl⟩ := h
  have h1 : ∀ j, j < 12 → (gS (23 + 5 * j)).1 = 0 := by decide
  exact ⟨by show 23 + 5 * j < 98; omega, h1 j hj⟩
theorem grG8 {g : Nat} (h : e_isG g) : gR g 8 = some (g + 1) := by
  obtain ⟨j, hj, rfl⟩ := h
  have h1 : ∀ j, j < 12 → gR (23 + 5 * j) 8 = some (23 + 5 * j + 1) := by decide
  exact h1 j hj
theorem grG9 {g : Nat} (h : e_isG g) : gR g 9 = some (g + 2) := by
  obtain ⟨j, hj, rfl⟩ := h
  have h1 : ∀ j, j < 12 → gR (23 + 5 * j) 9 = some (23 + 5 * j + 2) := by decide
  exact h1 j hj
theorem grG10 {g : Nat} (h : e_isG g) : gR g 10 = some (g + 3) := by
  obtain ⟨j, hj, rfl⟩ := h
  have h1 : ∀ j, j < 12 → gR (23 + 5 * j) 10 = some (23 + 5 * j + 3) := by decide
  exact h1 j hj
theorem grG11 {g : Nat} (h : e_isG g) : gR g 11 = some (g + 4) := by
  obtain ⟨j, hj, rfl⟩ := h
  have h1 : ∀ j, j < 12 → gR (23 + 5 * j) 11 = some (23 + 5 * j + 4) := by decide
  exact h1 j hj
theorem arG1 {g : Nat} (h : e_isG g) : e_ar gN (g + 1) 9 54 := by
  obtain ⟨j, hj, rfl⟩ := h
  have h1 : ∀ j, j < 12 → gS (23 + 5 * j + 1) = (9, 54) := by decide
  exact ⟨by show 23 + 5 * j + 1 < 98; omega, h1 j hj⟩
theorem arG2 {g : Nat} (h : e_isG g) : e_ar gN (g + 2) 9 5 := by
  obtain ⟨j, hj, rfl⟩ := h
  have h1 : ∀ j, j < 12 → gS (23 + 5 * j + 2) = (9, 5) := by decide
  exact ⟨by show 23 + 5 * j + 2 < 98; omega, h1 j hj⟩
theorem arG3 {g : Nat} (h : e_isG g) : e_ar gN (g + 3) 9 9 := by
  obtain ⟨j, hj, rfl⟩ := h
  have h1 : ∀ j, j < 12 → gS (23 + 5 * j + 3) = (9, 9) := by decide
  exact ⟨by show 23 + 5 * j + 3 < 98; omega, h1 j hj⟩
theorem arG4 {g : Nat} (h : e_isG g) : e_ar gN (g + 4) 9 240 := by
  obtain ⟨j, hj, rfl⟩ := h
  have h1 : ∀ j, j < 12 → gS (23 + 5 * j + 4) = (9, 240) := by decide
  exact ⟨by show 23 + 5 * j + 4 < 98; omega, h1 j hj⟩
def e_ir (a : Nat) : Prop := a < gN ∧ (gS a).1 = 9
theorem e_ir_ar {a : Nat} (h : e_ir a) : e_ar gN a 9 (e_ln a) := ⟨h.1, by rw [← h.2]; rfl⟩
def e_iw (w : Nat) : Prop := ∃ i, i < 13 ∧ w = 1000 + i
def e_sn (w : Nat) : Nat := e_slen.getD (w - 1000) 0
def e_sl (w : Nat) : Int32 := Int32.ofNat (e_sn w)
def e_sc (w : Nat) (j : Int32) : Int32 := (e_sbyt.getD (w - 1000) []).getD j.toNatClampNeg 0
theorem e_lsw_out2 {x : Int32} (h0 : ¬ x = 0) (h1 : ¬ x = 1) {a b d : Int} : Op.lookupswitch.offset [(0, a), (1, b)] d x.toInt = d := by
  have q0 := e_sw (n := 0) (by decide) (by decide) h0
  have q1 := e_sw (n := 1) (by decide) (by decide) h1
  sorry
section EP
variable {X : e_X} {cc : ByteArray} {own : String} {nl d nW : Nat} {rt : Option FieldType} {pc : Nat} {lv : List (Nat × Value)} {st : List Value} {I : e_I} {L : e_L} {τ : Type} {φ : τ → e_R} {F : Option τ}
theorem zo_irem_ (hC : e_C X cc own nl rt d nW) {x y : Int32} (hy : ¬ y = 0) (hd : decode cc pc = .ok (.irem, 1)) (k : Zo X φ F (pc + 1) lv (.int (e_rm x y) :: st) I L) : Zo X φ F pc lv (.int y :: .int x :: st) I L := zo_irem hC hy hd k
theorem zo_lrem_ (hC : e_C X cc own nl rt d nW) {x y : Int64} (hy : ¬ y = 0) (hd : decode cc pc = .ok (.lrem, 1)) (k : Zo X φ F (pc + 1) lv (.long (e_rml x y) :: st) I L) : Zo X φ F pc lv (.long y :: .long x :: st) I L := zo_lrem hC hy hd k
theorem zo_mmax_ (hC : e_C X cc own nl rt d nW) {index : Nat} {x y : Int32} (h1 : Cond.methodLink own index Lib.Math.max.name ∈ e_tbl) (h2 : Cond.static Lib.Math.max.name ∈ e_tbl) (h3 : Cond.initialized "java/lang/Math" ∈ e_tbl) (h4 : Cond.code Lib.Math.max.name Lib.Math.max.code 2 (some .int) ∈ e_tbl) (hroom : (st.map fun v => v.category).sum ≤ 8) (hd : decode cc pc = .ok (.invokestatic index, 3)) (k : Zo X φ F (pc + 3) lv (.int (e_max x y) :: st) I L) : Zo X φ F pc lv (.int y :: .int x :: st) I L := zo_mmax hC h1 h2 h3 h4 hroom hd k
theorem zo_mmin_ (hC : e_C X cc own nl rt d nW) {index : Nat} {x y : Int32} (h1 : Cond.methodLink own index Lib.Math.min.name ∈ e_tbl) (h2 : Cond.static Lib.Math.min.name ∈ e_tbl) (h3 : Cond.initialized "java/lang/Math" ∈ e_tbl) (h4 : Cond.code Lib.Math.min.name Lib.Math.min.code 2 (some .int) ∈ e_tbl) (hroom : (st.map fun v => v.category).sum ≤ 8) (hd : decode cc pc = .ok (.invokestatic index, 3)) (k : Zo X φ F (pc + 3) lv (.int (e_min x y) :: st) I L) : Zo X φ F pc lv (.int y :: .int x :: st) I L := zo_mmin hC h1 h2 h3 h4 hroom hd k
theorem zo_mmaxl_ (hC : e_C X cc own nl rt d nW) {index : Nat} {x y : Int64} (h1 : Cond.methodLink own index Lib.MathLoose.max_long.x ∈ e_tbl) (h2 : Cond.static Lib.MathLoose.max_long.x ∈ e_tbl) (h3 : Cond.initialized "java/lang/Math" ∈ e_tbl) (h4 : Cond.code Lib.MathLoose.max_long.x Lib.MathLoose.max_long.code 4 (some .long) ∈ e_tbl) (hroom : (st.map fun v => v.category).sum ≤ 8) (hd : decode cc pc = .ok (.invokestatic index, 3)) (k : Zo X φ F (pc + 3) lv (.long (e_maxl x y) :: st) I L) : Zo X φ F pc lv (.long y :: .long x :: st) I L := zo_mmaxl hC h1 h2 h3 h4 hroom hd k
theorem zo_ldcs (hC : e_C X cc own nl rt d nW) {index w i : Nat} {tx : String} (hi : e_str[i]? = some (own, index, tx)) (hw : w = 1000 + i) (hd : decode cc pc = .ok (.ldc index, 2)) (k : Zo X φ F (pc + 2) lv (.ref w :: st) I L) : Zo X φ F pc lv st I L := by
  sorry
theorem zo_slen (hC : e_C X cc own nl rt d nW) {index w : Nat} (hw : e_iw w) (hl : Cond.methodLink own index yJ0_length_8abf5 ∈ e_tbl) (hdd : 2 < d) (hroom : (st.map fun v => v.category).sum ≤ 8) (hd : decode cc pc = .ok (.invokevirtual index, 3)) (k : Zo X φ F (pc + 3) lv (.int (e_sl w) :: st) I L) : Zo X φ F pc lv (.ref w :: st) I L := by
  sorry
theorem zo_scharAt (hC : e_C X cc own nl rt d nW) {index w : Nat} {j : Int32} (hw : e_iw w) (hj : e_ix j (e_sn w) = true) (hl : Cond.methodLink own index yJ0_charAt_5068e ∈ e_tbl) (hdd : 3 < d) (hroom : (st.map fun v => v.category).sum ≤ 8) (hd : decode cc pc = .ok (.invokevirtual index, 3)) (k : Zo X φ F (pc + 3) lv (.int (e_sc w j) :: st) I L) : Zo X φ F pc lv (.int j :: .ref w :: st) I L := by
  sorry
end EP
/-- Integer.bitCount -/
def f_J6_bitCount_0f7a4 (x : Int32) : Option Int32 := none
theorem T_J6_bitCount_0f7a4 (x : Int32) (I : e_I) (L : e_L) (p : Int32) (hp : f_J6_bitCount_0f7a4 x = some p) : Mt yJ6_bitCount_0f7a4 cJ6_bitCount_0f7a4 1 (some .int) 0 gN [.int x] I L (ph_i I L p) := by
  sorry
