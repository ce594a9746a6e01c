/-! WHAT THE METHODS' PICTURES ARE MADE OF -/
def e_FU : Nat := 1000000
def e_rm (x y : Int32) : Int32 := x - x / y * y
def e_rml (x y : Int64) : Int64 := x - x / y * y
def e_max (x y : Int32) : Int32 := if x < y then y else x
def e_min (x y : Int32) : Int32 := if y < x then y else x
def e_maxl (x y : Int64) : Int64 := if y < x then x else y
def e_ix (j : Int32) (N : Nat) : Bool := decide (0 ≤ j.toInt ∧ j.toInt < N)
theorem e_ix_vp {j : Int32} {N : Nat} (h : e_ix j N = true) : vp_in j N := vp_in_iff.mpr (of_decide_eq_true h)
def e_isG (g : Nat) : Prop := ∃ j, j < 12 ∧ g = 23 + 5 * j
theorem isG_23 : e_isG 23 := ⟨0, by decide, rfl⟩
theorem isG_28 : e_isG 28 := ⟨1, by decide, rfl⟩
def eK (x : Int32) : Nat := 33 + 5 * (x.toNatClampNeg % 10)
theorem isG_eK (x : Int32) : e_isG (eK x) := ⟨2 + x.toNatClampNeg % 10, by omega, by unfold eK; omega⟩
theorem gR_eK {j : Int32} (h : vp_in j 10) : gR 10 j.toNatClampNeg = some (eK j) := by
  have h1 : ∀ k, k < 10 → gR 10 k = some (33 + 5 * (k % 10)) := by decide
  have h2 : j.toNatClampNeg < 10 := by
    unfold vp_in at h
    omega
  exact h1 _ h2
theorem atG {g : Nat} (h : e_isG g) : e_at gN g 0 := by
  obtain ⟨j, hj, rfl⟩ := h
  have h1 : ∀ j, j < 12 → (gS (23 + 5 * j)).1 = 0 := by decide
  exact ⟨by show 23 + 5 * j < 98; omega, h1 j hj⟩
theorem grG8 {g : Nat} (h : e_isG g) : gR g 8 = some (g + 1) := by
  obtain ⟨j, hj, rfl⟩ := h
  have h1 : ∀ j, j < 12 → gR (23 + 5 * j) 8 = some (23 + 5 * j + 1) := by decide
  exact h1 j hj
theorem grG9 {g : Nat} (h : e_isG g) : gR g 9 = some (g + 2) := by
  obtain ⟨j, hj, rfl⟩ := h
  have h1 : ∀ j, j < 12 → gR (23 + 5 * j) 9 = some (23 + 5 * j + 2) := by decide
  exact h1 j hj
theorem grG10 {g : Nat} (h : e_isG g) : gR g 10 = some (g + 3) := by
  obtain ⟨j, hj, rfl⟩ := h
  have h1 : ∀ j, j < 12 → gR (23 + 5 * j) 10 = some (23 + 5 * j + 3) := by decide
  exact h1 j hj
theorem grG11 {g : Nat} (h : e_isG g) : gR g 11 = some (g + 4) := by
  obtain ⟨j, hj, rfl⟩ := h
  have h1 : ∀ j, j < 12 → gR (23 + 5 * j) 11 = some (23 + 5 * j + 4) := by decide
  exact h1 j hj
theorem arG1 {g : Nat} (h : e_isG g) : e_ar gN (g + 1) 9 54 := by
  obtain ⟨j, hj, rfl⟩ := h
  have h1 : ∀ j, j < 12 → gS (23 + 5 * j + 1) = (9, 54) := by decide
  exact ⟨by show 23 + 5 * j + 1 < 98; omega, h1 j hj⟩
theorem arG2 {g : Nat} (h : e_isG g) : e_ar gN (g + 2) 9 5 := by
  obtain ⟨j, hj, rfl⟩ := h
  have h1 : ∀ j, j < 12 → gS (23 + 5 * j + 2) = (9, 5) := by decide
  exact ⟨by show 23 + 5 * j + 2 < 98; omega, h1 j hj⟩
theorem arG3 {g : Nat} (h : e_isG g) : e_ar gN (g + 3) 9 9 := by
  obtain ⟨j, hj, rfl⟩ := h
  have h1 : ∀ j, j < 12 → gS (23 + 5 * j + 3) = (9, 9) := by decide
  exact ⟨by show 23 + 5 * j + 3 < 98; omega, h1 j hj⟩
theorem arG4 {g : Nat} (h : e_isG g) : e_ar gN (g + 4) 9 240 := by
  obtain ⟨j, hj, rfl⟩ := h
  have h1 : ∀ j, j < 12 → gS (23 + 5 * j + 4) = (9, 240) := by decide
  exact ⟨by show 23 + 5 * j + 4 < 98; omega, h1 j hj⟩
def e_ir (a : Nat) : Prop := a < gN ∧ (gS a).1 = 9
theorem e_ir_ar {a : Nat} (h : e_ir a) : e_ar gN a 9 (e_ln a) := ⟨h.1, by rw [← h.2]; rfl⟩
def e_iw (w : Nat) : Prop := ∃ i, i < 7 ∧ w = 1000 + i
def e_sn (w : Nat) : Nat := e_slen.getD (w - 1000) 0
def e_sl (w : Nat) : Int32 := Int32.ofNat (e_sn w)
def e_sc (w : Nat) (j : Int32) : Int32 := (e_sbyt.getD (w - 1000) []).getD j.toNatClampNeg 0
theorem e_lsw_out2 {x : Int32} (h0 : ¬ x = 0) (h1 : ¬ x = 1) {a b d : Int} : Op.lookupswitch.offset [(0, a), (1, b)] d x.toInt = d := by
  have q0 := e_sw (n := 0) (by decide) (by decide) h0
  have q1 := e_sw (n := 1) (by decide) (by decide) h1
  simp [Op.lookupswitch.offset, Ne.symm q0, Ne.symm q1]
section EP
variable {X : e_X} {cc : ByteArray} {own : String} {nl d nW : Nat} {rt : Option FieldType} {pc : Nat} {lv : List (Nat × Value)} {st : List Value} {I : e_I} {L : e_L} {τ : Type} {φ : τ → e_R} {F : Option τ}
theorem zo_irem_ (hC : e_C X cc own nl rt d nW) {x y : Int32} (hy : ¬ y = 0) (hd : decode cc pc = .ok (.irem, 1)) (k : Zo X φ F (pc + 1) lv (.int (e_rm x y) :: st) I L) : Zo X φ F pc lv (.int y :: .int x :: st) I L := zo_irem hC hy hd k
theorem zo_lrem_ (hC : e_C X cc own nl rt d nW) {x y : Int64} (hy : ¬ y = 0) (hd : decode cc pc = .ok (.lrem, 1)) (k : Zo X φ F (pc + 1) lv (.long (e_rml x y) :: st) I L) : Zo X φ F pc lv (.long y :: .long x :: st) I L := zo_lrem hC hy hd k
theorem zo_mmax_ (hC : e_C X cc own nl rt d nW) {index : Nat} {x y : Int32} (h1 : Cond.methodLink own index Lib.Math.max.name ∈ e_tbl) (h2 : Cond.static Lib.Math.max.name ∈ e_tbl) (h3 : Cond.initialized "java/lang/Math" ∈ e_tbl) (h4 : Cond.code Lib.Math.max.name Lib.Math.max.code 2 (some .int) ∈ e_tbl) (hroom : (st.map fun v => v.category).sum ≤ 8) (hd : decode cc pc = .ok (.invokestatic index, 3)) (k : Zo X φ F (pc + 3) lv (.int (e_max x y) :: st) I L) : Zo X φ F pc lv (.int y :: .int x :: st) I L := zo_mmax hC h1 h2 h3 h4 hroom hd k
theorem zo_mmin_ (hC : e_C X cc own nl rt d nW) {index : Nat} {x y : Int32} (h1 : Cond.methodLink own index Lib.Math.min.name ∈ e_tbl) (h2 : Cond.static Lib.Math.min.name ∈ e_tbl) (h3 : Cond.initialized "java/lang/Math" ∈ e_tbl) (h4 : Cond.code Lib.Math.min.name Lib.Math.min.code 2 (some .int) ∈ e_tbl) (hroom : (st.map fun v => v.category).sum ≤ 8) (hd : decode cc pc = .ok (.invokestatic index, 3)) (k : Zo X φ F (pc + 3) lv (.int (e_min x y) :: st) I L) : Zo X φ F pc lv (.int y :: .int x :: st) I L := zo_mmin hC h1 h2 h3 h4 hroom hd k
theorem zo_mmaxl_ (hC : e_C X cc own nl rt d nW) {index : Nat} {x y : Int64} (h1 : Cond.methodLink own index Lib.MathLoose.max_long.x ∈ e_tbl) (h2 : Cond.static Lib.MathLoose.max_long.x ∈ e_tbl) (h3 : Cond.initialized "java/lang/Math" ∈ e_tbl) (h4 : Cond.code Lib.MathLoose.max_long.x Lib.MathLoose.max_long.code 4 (some .long) ∈ e_tbl) (hroom : (st.map fun v => v.category).sum ≤ 8) (hd : decode cc pc = .ok (.invokestatic index, 3)) (k : Zo X φ F (pc + 3) lv (.long (e_maxl x y) :: st) I L) : Zo X φ F pc lv (.long y :: .long x :: st) I L := zo_mmaxl hC h1 h2 h3 h4 hroom hd k
theorem zo_ldcs (hC : e_C X cc own nl rt d nW) {index w i sid : Nat} {tx : String} (hi : e_str[i]? = some (own, index, tx, sid)) (hw : w = 1000 + sid) (hd : decode cc pc = .ok (.ldc index, 2)) (k : Zo X φ F (pc + 2) lv (.ref w :: st) I L) : Zo X φ F pc lv st I L := by
  subst hw
  exact fun p hp => z_ldcs hC hi hd (k p hp)
end EP
/-! the JDK's own members that are reached -/
theorem me_J0_coder : e_me yJ0_coder_7d493 cJ0_coder_7d493 1 (some .byte) 0 := ⟨e_in 138 (by decide +kernel) (by decide +kernel), by decide, ⟨by decide +kernel, by decide +kernel⟩, by decide +kernel, e_in 95 (by decide +kernel) (by decide +kernel)⟩
theorem me_J0_isLatin1 : e_me yJ0_isLatin1_aae02 cJ0_isLatin1_aae02 1 (some .boolean) 0 := ⟨e_in 148 (by decide +kernel) (by decide +kernel), by decide, ⟨by decide +kernel, by decide +kernel⟩, by decide +kernel, e_in 95 (by decide +kernel) (by decide +kernel)⟩
theorem me_J0_length : e_me yJ0_length_8abf5 cJ0_length_8abf5 1 (some .int) 0 := ⟨e_in 134 (by decide +kernel) (by decide +kernel), by decide, ⟨by decide +kernel, by decide +kernel⟩, by decide +kernel, e_in 95 (by decide +kernel) (by decide +kernel)⟩
theorem me_J3_checkIndex : e_me yJ3_checkIndex_8e157 cJ3_checkIndex_8e157 3 (some .int) 3 := ⟨e_in 159 (by decide +kernel) (by decide +kernel), by decide, ⟨by decide +kernel, by decide +kernel⟩, by decide +kernel, e_in 97 (by decide +kernel) (by decide +kernel)⟩
theorem me_J0_checkIndex : e_me yJ0_checkIndex_df160 cJ0_checkIndex_df160 2 none 2 := ⟨e_in 154 (by decide +kernel) (by decide +kernel), by decide, ⟨by decide +kernel, by decide +kernel⟩, by decide +kernel, e_in 95 (by decide +kernel) (by decide +kernel)⟩
theorem me_J1_charAt : e_me yJ1_charAt_3b067 cJ1_charAt_3b067 2 (some .char) 2 := ⟨e_in 151 (by decide +kernel) (by decide +kernel), by decide, ⟨by decide +kernel, by decide +kernel⟩, by decide +kernel, e_in 96 (by decide +kernel) (by decide +kernel)⟩
theorem me_J0_charAt : e_me yJ0_charAt_5068e cJ0_charAt_5068e 2 (some .char) 1 := ⟨e_in 144 (by decide +kernel) (by decide +kernel), by decide, ⟨by decide +kernel, by decide +kernel⟩, by decide +kernel, e_in 95 (by decide +kernel) (by decide +kernel)⟩
section EJ
variable {n : Nat} {I : e_I} {L : e_L} {i : Nat}
theorem T_J0_coder (hi : i < 7) : Mt yJ0_coder_7d493 cJ0_coder_7d493 1 (some .byte) 0 n [.ref (1000 + i)] I L (some (.int 0), I, L) := by
  refine e_enter (by decide) (Nat.le_of_ble_eq_true rfl) (fun X hC => ?_)
  refine z_getsC hC (e_in 139 (by decide +kernel) (by decide +kernel)) dJ0_coder_7d493_0 ?_
  refine z_if_eq (tgt := 13) hC dJ0_coder_7d493_3 (by decide) (fun h => absurd h (by decide)) (fun _ => ?_)
  refine z_aload_n hC dJ0_coder_7d493_6 rfl 0 rfl ?_
  refine z_getWc hC hi (e_in 1706 (by decide +kernel) (by decide +kernel)) dJ0_coder_7d493_7 ?_
  refine z_goto (tgt := 14) hC dJ0_coder_7d493_10 (by decide) ?_
  exact z_nret hC rfl dJ0_coder_7d493_14
theorem T_J0_isLatin1 (hi : i < 7) : Mt yJ0_isLatin1_aae02 cJ0_isLatin1_aae02 1 (some .boolean) 0 n [.ref (1000 + i)] I L (some (.int 1), I, L) := by
  refine e_enter (by decide) (Nat.le_of_ble_eq_true rfl) (fun X hC => ?_)
  refine z_getsC hC (e_in 139 (by decide +kernel) (by decide +kernel)) dJ0_isLatin1_aae02_0 ?_
  refine z_if_eq (tgt := 17) hC dJ0_isLatin1_aae02_3 (by decide) (fun h => absurd h (by decide)) (fun _ => ?_)
  refine z_aload_n hC dJ0_isLatin1_aae02_6 rfl 0 rfl ?_
  refine z_getWc hC hi (e_in 1706 (by decide +kernel) (by decide +kernel)) dJ0_isLatin1_aae02_7 ?_
  refine z_if_ne (tgt := 17) hC dJ0_isLatin1_aae02_10 (by decide) (fun h => absurd rfl h) (fun _ => ?_)
  refine z_iconst (v := 1) hC (by decide) dJ0_isLatin1_aae02_13 ?_
  refine z_goto (tgt := 18) hC dJ0_isLatin1_aae02_14 (by decide) ?_
  exact z_zret hC (Or.inr rfl) dJ0_isLatin1_aae02_18
theorem e_sl_eq (hi : i < 7) : Int32.ofNat (e_slen.getD i 0) >>> ((0 : Int32) &&& 31) = e_sl (1000 + i) := by
  have h : ∀ i, i < 7 → Int32.ofNat (e_slen.getD i 0) >>> ((0 : Int32) &&& 31) = e_sl (1000 + i) := by decide +kernel
  exact h i hi
theorem T_J0_length (hi : i < 7) : Mt yJ0_length_8abf5 cJ0_length_8abf5 1 (some .int) 1 n [.ref (1000 + i)] I L (some (.int (e_sl (1000 + i))), I, L) := by
  refine e_enter (by decide) (Nat.le_of_ble_eq_true rfl) (fun X hC => ?_)
  refine z_aload_n hC dJ0_length_8abf5_0 rfl 0 rfl ?_
  refine z_getWv hC hi (e_in 1705 (by decide +kernel) (by decide +kernel)) dJ0_length_8abf5_1 ?_
  refine z_alenW hC hi dJ0_length_8abf5_4 ?_
  refine z_aload_n hC dJ0_length_8abf5_5 rfl 0 rfl ?_
  refine z_callVR hC (As := []) (st := [.int (Int32.ofNat (e_slen.getD i 0))]) me_J0_coder (e_in 135 (by decide +kernel) (by decide +kernel)) (e_in 136 (by decide +kernel) (by decide +kernel)) (e_in 137 (by decide +kernel) (by decide +kernel)) (e_recvW hi) (T_J0_coder hi) (by decide) rfl (Nat.le_of_ble_eq_true rfl) dJ0_length_8abf5_6 rfl ?_
  refine z_ishr (x := Int32.ofNat (e_slen.getD i 0)) (y := 0) hC dJ0_length_8abf5_9 ?_
  rw [e_sl_eq hi]
  exact z_iret hC dJ0_length_8abf5_10
theorem T_J3_checkIndex {j m : Int32} {x : Value} (hx : x = .null ∨ x = .ref 3000) (h0 : ¬ j < 0) (h1 : j < m) : Mt yJ3_checkIndex_8e157 cJ3_checkIndex_8e157 3 (some .int) 0 n [.int j, .int m, x] I L (some (.int j), I, L) := by
  refine e_enter (by decide) (by rcases hx with rfl | rfl <;> exact Nat.le_of_ble_eq_true rfl) (fun X hC => ?_)
  refine z_iload_n (x := j) hC dJ3_checkIndex_8e157_0 rfl 0 rfl ?_
  refine z_if_lt (tgt := 9) hC dJ3_checkIndex_8e157_1 (by decide) (fun h => absurd h h0) (fun _ => ?_)
  refine z_iload_n (x := j) hC dJ3_checkIndex_8e157_4 rfl 0 rfl ?_
  refine z_iload_n (x := m) hC dJ3_checkIndex_8e157_5 rfl 1 rfl ?_
  refine z_icmp_lt (tgt := 16) hC dJ3_checkIndex_8e157_6 (by decide) (fun _ => ?_) (fun h => absurd h1 h)
  refine z_iload_n (x := j) hC dJ3_checkIndex_8e157_16 rfl 0 rfl ?_
  exact z_iret hC dJ3_checkIndex_8e157_17
theorem T_J0_checkIndex {j m : Int32} (h0 : ¬ j < 0) (h1 : j < m) : Mt yJ0_checkIndex_df160 cJ0_checkIndex_df160 2 none 1 n [.int j, .int m] I L (none, I, L) := by
  refine e_enter (by decide) (Nat.le_of_ble_eq_true rfl) (fun X hC => ?_)
  refine z_iload_n (x := j) hC dJ0_checkIndex_df160_0 rfl 0 rfl ?_
  refine z_iload_n (x := m) hC dJ0_checkIndex_df160_1 rfl 1 rfl ?_
  have key : ∀ x : Value, x = .null ∨ x = .ref 3000 → Z X (e_Q X (none, I, L)) 5 (lv_args 0 [.int j, .int m]) [x, .int m, .int j] I L := by
    intro x hx
    refine z_callS hC (As := [.int j, .int m, x]) (st := []) me_J3_checkIndex (e_in 157 (by decide +kernel) (by decide +kernel)) (e_in 158 (by decide +kernel) (by decide +kernel)) (T_J3_checkIndex hx h0 h1) (by decide) rfl (Nat.le_of_ble_eq_true rfl) dJ0_checkIndex_df160_5 rfl ?_
    refine z_pop (va := .int j) hC rfl dJ0_checkIndex_df160_8 ?_
    exact z_vret hC dJ0_checkIndex_df160_9
  exact z_getsP hC (e_in 155 (by decide +kernel) (by decide +kernel)) dJ0_checkIndex_df160_2 (key _ (Or.inl rfl)) (key _ (Or.inr rfl))
theorem e_sc_eq : ∀ i, i < 7 → ∀ k, k < e_slen.getD i 0 → ((((e_sbyt.getD i []).getD k 0) &&& 255).toUInt32 % 65536).toInt32 = (e_sbyt.getD i []).getD k 0 ∧ narrow .char (.int ((e_sbyt.getD i []).getD k 0)) = .int ((e_sbyt.getD i []).getD k 0) := by decide +kernel
theorem e_ix_lt {j : Int32} {N : Nat} (hN : N < 2 ^ 31) (h : e_ix j N = true) : ¬ j < 0 ∧ j < Int32.ofNat N ∧ j.toNatClampNeg < N := by
  obtain ⟨k, hk, rfl⟩ := vp_in_of (e_ix_vp h) hN
  exact ⟨nI_pos (by omega), nI_lt hk hN, by rw [nI_clamp (by omega)]; exact hk⟩
theorem e_sn_at (hi : i < 7) : e_sn (1000 + i) = e_slen.getD i 0 ∧ e_slen.getD i 0 < 2 ^ 31 := by
  have h : ∀ i, i < 7 → e_sn (1000 + i) = e_slen.getD i 0 ∧ e_slen.getD i 0 < 2 ^ 31 := by decide +kernel
  exact h i hi
theorem T_J1_charAt {j : Int32} (hi : i < 7) (hj : e_ix j (e_sn (1000 + i)) = true) : Mt yJ1_charAt_3b067 cJ1_charAt_3b067 2 (some .char) 2 n [.ref (2000 + i), .int j] I L (some (.int ((e_sbyt.getD i []).getD j.toNatClampNeg 0)), I, L) := by
  rw [(e_sn_at hi).1] at hj
  obtain ⟨h0, h1, h2⟩ := e_ix_lt (e_sn_at hi).2 hj
  obtain ⟨q1, q2⟩ := e_sc_eq i hi _ h2
  refine e_enter (by decide) (Nat.le_of_ble_eq_true rfl) (fun X hC => ?_)
  refine z_iload_n (x := j) hC dJ1_charAt_3b067_0 rfl 1 rfl ?_
  refine z_aload_n hC dJ1_charAt_3b067_1 rfl 0 rfl ?_
  refine z_alenW hC hi dJ1_charAt_3b067_2 ?_
  refine z_callS hC (As := [.int j, .int (Int32.ofNat (e_slen.getD i 0))]) (st := []) me_J0_checkIndex (e_in 152 (by decide +kernel) (by decide +kernel)) (e_in 153 (by decide +kernel) (by decide +kernel)) (T_J0_checkIndex h0 h1) (by decide) rfl (Nat.le_of_ble_eq_true rfl) dJ1_charAt_3b067_3 rfl ?_
  refine z_aload_n hC dJ1_charAt_3b067_6 rfl 0 rfl ?_
  refine z_iload_n (x := j) hC dJ1_charAt_3b067_7 rfl 1 rfl ?_
  refine z_baldW hC hi (e_ix_vp hj) dJ1_charAt_3b067_8 ?_
  refine z_sipush (v := 255) hC (by decide) dJ1_charAt_3b067_9 ?_
  refine z_iand hC dJ1_charAt_3b067_12 ?_
  refine z_i2c hC dJ1_charAt_3b067_13 ?_
  rw [q1]
  exact z_nret hC q2 dJ1_charAt_3b067_14
theorem T_J0_charAt {j : Int32} (hi : i < 7) (hj : e_ix j (e_sn (1000 + i)) = true) : Mt yJ0_charAt_5068e cJ0_charAt_5068e 2 (some .char) 3 n [.ref (1000 + i), .int j] I L (some (.int ((e_sbyt.getD i []).getD j.toNatClampNeg 0)), I, L) := by
  have hj' := hj
  rw [(e_sn_at hi).1] at hj'
  obtain ⟨h0, h1, h2⟩ := e_ix_lt (e_sn_at hi).2 hj'
  obtain ⟨q1, q2⟩ := e_sc_eq i hi _ h2
  refine e_enter (by decide) (Nat.le_of_ble_eq_true rfl) (fun X hC => ?_)
  refine z_aload_n hC dJ0_charAt_5068e_0 rfl 0 rfl ?_
  refine z_callVR hC (As := []) (st := []) me_J0_isLatin1 (e_in 145 (by decide +kernel) (by decide +kernel)) (e_in 146 (by decide +kernel) (by decide +kernel)) (e_in 147 (by decide +kernel) (by decide +kernel)) (e_recvW hi) (T_J0_isLatin1 hi) (by decide) rfl (Nat.le_of_ble_eq_true rfl) dJ0_charAt_5068e_1 rfl ?_
  refine z_if_eq (x := 1) (tgt := 16) hC dJ0_charAt_5068e_4 (by decide) (fun h => absurd h (by decide)) (fun _ => ?_)
  refine z_aload_n hC dJ0_charAt_5068e_7 rfl 0 rfl ?_
  refine z_getWv hC hi (e_in 1705 (by decide +kernel) (by decide +kernel)) dJ0_charAt_5068e_8 ?_
  refine z_iload_n (x := j) hC dJ0_charAt_5068e_11 rfl 1 rfl ?_
  refine z_callS hC (As := [.ref (2000 + i), .int j]) (st := []) me_J1_charAt (e_in 149 (by decide +kernel) (by decide +kernel)) (e_in 150 (by decide +kernel) (by decide +kernel)) (T_J1_charAt hi hj) (by decide) rfl (Nat.le_of_ble_eq_true rfl) dJ0_charAt_5068e_12 rfl ?_
  exact z_nret hC q2 dJ0_charAt_5068e_15
end EJ
section EP2
variable {X : e_X} {cc : ByteArray} {own : String} {nl d nW : Nat} {rt : Option FieldType} {pc : Nat} {lv : List (Nat × Value)} {st : List Value} {I : e_I} {L : e_L} {τ : Type} {φ : τ → e_R} {F : Option τ}
theorem zo_slen (hC : e_C X cc own nl rt d nW) {index w : Nat} (hw : e_iw w) (hl : Cond.methodLink own index yJ0_length_8abf5 ∈ e_tbl) (hdd : 1 < d) (hroom : (st.map fun v => v.category).sum ≤ 8) (hd : decode cc pc = .ok (.invokevirtual index, 3)) (k : Zo X φ F (pc + 3) lv (.int (e_sl w) :: st) I L) : Zo X φ F pc lv (.ref w :: st) I L := by
  obtain ⟨i, hi, rfl⟩ := hw
  exact fun p hp => z_callVR hC (As := []) (st := st) me_J0_length hl (e_in 132 (by decide +kernel) (by decide +kernel)) (e_in 133 (by decide +kernel) (by decide +kernel)) (e_recvW hi) (T_J0_length hi) hdd rfl hroom hd rfl (k p hp)
theorem zo_scharAt (hC : e_C X cc own nl rt d nW) {index w : Nat} {j : Int32} (hw : e_iw w) (hj : e_ix j (e_sn w) = true) (hl : Cond.methodLink own index yJ0_charAt_5068e ∈ e_tbl) (hdd : 3 < d) (hroom : (st.map fun v => v.category).sum ≤ 8) (hd : decode cc pc = .ok (.invokevirtual index, 3)) (k : Zo X φ F (pc + 3) lv (.int (e_sc w j) :: st) I L) : Zo X φ F pc lv (.int j :: .ref w :: st) I L := by
  obtain ⟨i, hi, rfl⟩ := hw
  have e : e_sc (1000 + i) j = (e_sbyt.getD i []).getD j.toNatClampNeg 0 := by
    unfold e_sc
    rw [Nat.add_sub_cancel_left]
  rw [e] at k
  exact fun p hp => z_callVR hC (As := [.int j]) (st := st) me_J0_charAt hl (e_in 142 (by decide +kernel) (by decide +kernel)) (e_in 143 (by decide +kernel) (by decide +kernel)) (e_recvW hi) (T_J0_charAt hi hj) hdd rfl hroom hd rfl (k p hp)
end EP2
/-- Integer.bitCount -/
def e_us (x y : Int32) : Int32 := (x.toUInt32 >>> (y.toUInt32 &&& Int32.toUInt32 31)).toInt32
def e_bc1 (x : Int32) : Int32 := x - (e_us x 1 &&& 1431655765)
def e_bc2 (x : Int32) : Int32 := (x &&& 858993459) + (e_us x 2 &&& 858993459)
def e_bc3 (x : Int32) : Int32 := (x + e_us x 4) &&& 252645135
def e_bc4 (x : Int32) : Int32 := x + e_us x 8
def e_bc5 (x : Int32) : Int32 := x + e_us x 16
def e_bc (x : Int32) : Int32 := e_bc5 (e_bc4 (e_bc3 (e_bc2 (e_bc1 x)))) &&& 63
def f_J6_bitCount_0f7a4 (x : Int32) : Option Int32 := some (e_bc x)
theorem cnJ6_265 : Cond.constant RJ6 265 1431655765 ∈ e_tbl := e_in 587 (by decide +kernel) (by decide +kernel)
theorem cnJ6_266 : Cond.constant RJ6 266 858993459 ∈ e_tbl := e_in 588 (by decide +kernel) (by decide +kernel)
theorem cnJ6_267 : Cond.constant RJ6 267 252645135 ∈ e_tbl := e_in 589 (by decide +kernel) (by decide +kernel)
theorem T_J6_bitCount_0f7a4 (x : Int32) (I : e_I) (L : e_L) (p : Int32) (hp : f_J6_bitCount_0f7a4 x = some p) : Mt yJ6_bitCount_0f7a4 cJ6_bitCount_0f7a4 1 (some .int) 0 gN [.int x] I L (ph_i I L p) := by
  cases hp
  unfold e_bc
  refine e_enter (by decide) (Nat.le_of_ble_eq_true rfl) (fun X hC => ?_)
  refine z_iload_n (x := x) hC dJ6_bitCount_0f7a4_0 rfl 0 rfl ?_
  refine z_iload_n (x := x) hC dJ6_bitCount_0f7a4_1 rfl 0 rfl ?_
  refine z_iconst (v := 1) hC (by decide) dJ6_bitCount_0f7a4_2 ?_
  refine z_iushr hC dJ6_bitCount_0f7a4_3 ?_
  refine z_ldcw hC cnJ6_265 dJ6_bitCount_0f7a4_4 ?_
  refine z_iand hC dJ6_bitCount_0f7a4_7 ?_
  refine z_isub hC dJ6_bitCount_0f7a4_8 ?_
  refine z_istore_n (x := e_bc1 x) (lv' := [(0, .int (e_bc1 x))]) hC dJ6_bitCount_0f7a4_9 rfl (by decide) rfl ?_
  generalize e_bc1 x = x
  refine z_iload_n (x := x) hC dJ6_bitCount_0f7a4_10 rfl 0 rfl ?_
  refine z_ldcw hC cnJ6_266 dJ6_bitCount_0f7a4_11 ?_
  refine z_iand hC dJ6_bitCount_0f7a4_14 ?_
  refine z_iload_n (x := x) hC dJ6_bitCount_0f7a4_15 rfl 0 rfl ?_
  refine z_iconst (v := 2) hC (by decide) dJ6_bitCount_0f7a4_16 ?_
  refine z_iushr hC dJ6_bitCount_0f7a4_17 ?_
  refine z_ldcw hC cnJ6_266 dJ6_bitCount_0f7a4_18 ?_
  refine z_iand hC dJ6_bitCount_0f7a4_21 ?_
  refine z_iadd hC dJ6_bitCount_0f7a4_22 ?_
  refine z_istore_n (x := e_bc2 x) (lv' := [(0, .int (e_bc2 x))]) hC dJ6_bitCount_0f7a4_23 rfl (by decide) rfl ?_
  generalize e_bc2 x = x
  refine z_iload_n (x := x) hC dJ6_bitCount_0f7a4_24 rfl 0 rfl ?_
  refine z_iload_n (x := x) hC dJ6_bitCount_0f7a4_25 rfl 0 rfl ?_
  refine z_iconst (v := 4) hC (by decide) dJ6_bitCount_0f7a4_26 ?_
  refine z_iushr hC dJ6_bitCount_0f7a4_27 ?_
  refine z_iadd hC dJ6_bitCount_0f7a4_28 ?_
  refine z_ldcw hC cnJ6_267 dJ6_bitCount_0f7a4_29 ?_
  refine z_iand hC dJ6_bitCount_0f7a4_32 ?_
  refine z_istore_n (x := e_bc3 x) (lv' := [(0, .int (e_bc3 x))]) hC dJ6_bitCount_0f7a4_33 rfl (by decide) rfl ?_
  generalize e_bc3 x = x
  refine z_iload_n (x := x) hC dJ6_bitCount_0f7a4_34 rfl 0 rfl ?_
  refine z_iload_n (x := x) hC dJ6_bitCount_0f7a4_35 rfl 0 rfl ?_
  refine z_bipush (v := 8) hC (by decide) dJ6_bitCount_0f7a4_36 ?_
  refine z_iushr hC dJ6_bitCount_0f7a4_38 ?_
  refine z_iadd hC dJ6_bitCount_0f7a4_39 ?_
  refine z_istore_n (x := e_bc4 x) (lv' := [(0, .int (e_bc4 x))]) hC dJ6_bitCount_0f7a4_40 rfl (by decide) rfl ?_
  generalize e_bc4 x = x
  refine z_iload_n (x := x) hC dJ6_bitCount_0f7a4_41 rfl 0 rfl ?_
  refine z_iload_n (x := x) hC dJ6_bitCount_0f7a4_42 rfl 0 rfl ?_
  refine z_bipush (v := 16) hC (by decide) dJ6_bitCount_0f7a4_43 ?_
  refine z_iushr hC dJ6_bitCount_0f7a4_45 ?_
  refine z_iadd hC dJ6_bitCount_0f7a4_46 ?_
  refine z_istore_n (x := e_bc5 x) (lv' := [(0, .int (e_bc5 x))]) hC dJ6_bitCount_0f7a4_47 rfl (by decide) rfl ?_
  generalize e_bc5 x = x
  refine z_iload_n (x := x) hC dJ6_bitCount_0f7a4_48 rfl 0 rfl ?_
  refine z_bipush (v := 63) hC (by decide) dJ6_bitCount_0f7a4_49 ?_
  refine z_iand hC dJ6_bitCount_0f7a4_51 ?_
  exact z_iret hC dJ6_bitCount_0f7a4_52
