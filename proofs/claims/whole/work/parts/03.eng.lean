/-! THE ENGINE: an abstract memory for all cells that are made in the constructors, and a judgement over it.
A cell has a number; its shape (kind, length; gS) and the references that it holds (gR) are fixed once the constructors are through;
what changes are ints (I : cell, place) and longs (L : cell, place). -/
abbrev vwCl : List vw_C := [(RX0, TX0, 12), (RX1, TX1, 8), (RX2, TX2, 5), (RX3, TX3, 4), (RX4, TX4, 3), (RX5, TX5, 1), (RX6, TX6, 14), (RX7, TX7, 11), (RX8, TX8, 35)]
abbrev e_I : Type := Nat → Nat → Int32
abbrev e_L : Type := Nat → Nat → Int64
abbrev e_R : Type := Option Value × e_I × e_L
abbrev gN : Nat := 98
def gSL : List (Nat × Nat) := [(7, 0), (6, 0), (9, 9), (9, 54), (9, 5), (10, 500), (9, 6), (11, 5), (9, 9), (4, 0), (13, 10), (1, 0), (2, 0), (9, 216), (9, 216), (12, 150), (12, 6), (9, 6), (12, 25), (3, 0), (9, 3), (9, 9), (5, 0), (0, 0), (9, 54), (9, 5), (9, 9), (9, 240), (0, 0), (9, 54), (9, 5), (9, 9), (9, 240), (0, 0), (9, 54), (9, 5), (9, 9), (9, 240), (0, 0), (9, 54), (9, 5), (9, 9), (9, 240), (0, 0), (9, 54), (9, 5), (9, 9), (9, 240), (0, 0), (9, 54), (9, 5), (9, 9), (9, 240), (0, 0), (9, 54), (9, 5), (9, 9), (9, 240), (0, 0), (9, 54), (9, 5), (9, 9), (9, 240), (0, 0), (9, 54), (9, 5), (9, 9), (9, 240), (0, 0), (9, 54), (9, 5), (9, 9), (9, 240), (0, 0), (9, 54), (9, 5), (9, 9), (9, 240), (0, 0), (9, 54), (9, 5), (9, 9), (9, 240), (8, 0), (9, 500), (9, 396), (9, 396), (9, 54), (9, 54), (12, 24), (12, 24), (9, 24), (9, 6), (9, 9), (9, 9), (9, 396), (9, 3960), (12, 1)]
def gS (k : Nat) : Nat × Nat := gSL.getD k (14, 0)
def gRL : List (List Nat) := [[1, 8, 23, 28, 9, 11, 19, 22], [2, 3, 4, 0, 0, 0, 5, 6, 7], [], [], [], [], [], [], [], [10], [33, 38, 43, 48, 53, 58, 63, 68, 73, 78], [12, 15, 16, 17, 18], [13, 14], [], [], [], [], [], [], [20, 21], [], [], [], [0, 0, 0, 0, 0, 0, 0, 0, 24, 25, 26, 27], [], [], [], [], [0, 0, 0, 0, 0, 0, 0, 0, 29, 30, 31, 32], [], [], [], [], [0, 0, 0, 0, 0, 0, 0, 0, 34, 35, 36, 37], [], [], [], [], [0, 0, 0, 0, 0, 0, 0, 0, 39, 40, 41, 42], [], [], [], [], [0, 0, 0, 0, 0, 0, 0, 0, 44, 45, 46, 47], [], [], [], [], [0, 0, 0, 0, 0, 0, 0, 0, 49, 50, 51, 52], [], [], [], [], [0, 0, 0, 0, 0, 0, 0, 0, 54, 55, 56, 57], [], [], [], [], [0, 0, 0, 0, 0, 0, 0, 0, 59, 60, 61, 62], [], [], [], [], [0, 0, 0, 0, 0, 0, 0, 0, 64, 65, 66, 67], [], [], [], [], [0, 0, 0, 0, 0, 0, 0, 0, 69, 70, 71, 72], [], [], [], [], [0, 0, 0, 0, 0, 0, 0, 0, 74, 75, 76, 77], [], [], [], [], [0, 0, 0, 0, 0, 0, 0, 0, 79, 80, 81, 82], [], [], [], [], [0, 0, 0, 0, 84, 0, 0, 85, 86, 87, 88, 0, 0, 0, 0, 0, 0, 0, 0, 0, 0, 0, 89, 90, 91, 92, 0, 0, 93, 94, 0, 0, 95, 0, 96], [], [], [], [], [], [], [], [], [], [], [], [], [], []]
def gR (k i : Nat) : Option Nat := match (gRL.getD k []).getD i 0 with
  | 0 => none
  | r => some r
def e_ui (I : e_I) (a i : Nat) (x : Int32) : e_I := fun b j => if b = a then (if j = i then x else I b j) else I b j
def e_ul (I : e_L) (a i : Nat) (x : Int64) : e_L := fun b j => if b = a then (if j = i then x else I b j) else I b j
/-- a row's copy -/
def e_cpy (I : e_I) (a0 sp a1 dp n : Nat) : e_I := fun b j => if b = a1 then va_cpy (I a0) (I a1) sp dp n j else I b j
def cv (ad : Nat → Nat) (v : Value) : Value := match v with
  | .ref k => .ref (ad k)
  | w => w
def e_tbl : List Cond := lw_tbl.filter goodWord
theorem e_in {w : Cond} (i : Nat) (h : lw_tbl[i]? = some w) (hg : goodWord w = true) : w ∈ e_tbl := List.mem_filter.mpr ⟨List.mem_of_getElem? h, hg⟩
theorem e_tbl_in {w : Cond} (h : w ∈ e_tbl) : w ∈ lw_tbl := (List.mem_filter.mp h).1
theorem e_tbl_good {w : Cond} (h : w ∈ e_tbl) : (w.onTables && w.keeps) = true ∨ ∃ ty, w = .arrayClass ty := good_of_word (List.mem_filter.mp h).2
/-- which kind of thing a field holds: 0 an int, 1 a long, 2 a reference -/
def e_kd (d : String) : Nat := if d = "J" then 1 else if d = "I" ∨ d = "Z" then 0 else 2
def e_fld (ad : Nat → Nat) (I : e_I) (L : e_L) (T : u_T) (k i : Nat) : Value :=
  if e_kd (T i).2.2.1 = 0 then .int (I k i) else if e_kd (T i).2.2.1 = 1 then .long (L k i) else va_rf ((gR k i).map ad)
def e_cl (t : Nat) : vw_C := vwCl.getD t (RX0, TX0, 12)
def e_fs (ad : Nat → Nat) (I : e_I) (L : e_L) (t k : Nat) : List Value := (List.range (e_cl t).2.2).map (fun i => e_fld ad I L (e_cl t).2.1 k i)
def e_cell (ad : Nat → Nat) (cA : Nat → ClassId) (I : e_I) (L : e_L) (k : Nat) : va_E :=
  if (gS k).1 < 9 then .inr ((gS k).1, e_fs ad I L (gS k).1 k)
  else if (gS k).1 = 12 then .inl (cA 12, (gS k).2, .inr (.inl (L k)))
  else if (gS k).1 = 13 then .inl (cA 13, (gS k).2, .inr (.inr (.inr (.inr (fun j => (gR k j).map ad)))))
  else .inl (cA (gS k).1, (gS k).2, .inl (I k))
def e_ws (ad : Nat → Nat) (cA : Nat → ClassId) (n : Nat) (I : e_I) (L : e_L) : va_W := (List.range n).map (fun k => (ad k, e_cell ad cA I L k))
theorem e_ws_at {ad : Nat → Nat} {cA : Nat → ClassId} {n : Nat} {I : e_I} {L : e_L} {k : Nat} (h : k < n) : (e_ws ad cA n I L)[k]? = some (ad k, e_cell ad cA I L k) := by
  simp [e_ws, List.getElem?_map, List.getElem?_range h]
theorem e_ws_len {ad : Nat → Nat} {cA : Nat → ClassId} {n : Nat} {I : e_I} {L : e_L} : (e_ws ad cA n I L).length = n := by simp [e_ws]
theorem e_ws_lt {ad : Nat → Nat} {cA : Nat → ClassId} {n : Nat} {I : e_I} {L : e_L} {k : Nat} {q : Nat × va_E} (h : (e_ws ad cA n I L)[k]? = some q) : k < n ∧ q = (ad k, e_cell ad cA I L k) := by
  have hk : k < n := by
    have := (List.getElem?_eq_some_iff.mp h).1
    rwa [e_ws_len] at this
  rw [e_ws_at hk] at h
  exact ⟨hk, (Option.some.inj h).symm⟩
def e_tys (cA : Nat → ClassId) : List (ClassId × FieldType) := [(cA 9, .int), (cA 10, .byte), (cA 11, .boolean), (cA 12, .long), (cA 13, .object "RunWorth$Game")]
/-- a change of one cell is a change at one place of the picture -/
theorem e_ws_set {ad : Nat → Nat} {cA : Nat → ClassId} {n : Nat} {I I' : e_I} {L L' : e_L} {a : Nat} {x : va_E} (hx : e_cell ad cA I' L' a = x) (hI : ∀ b, b ≠ a → I' b = I b) (hL : ∀ b, b ≠ a → L' b = L b) :
    (e_ws ad cA n I L).set a (ad a, x) = e_ws ad cA n I' L' := by
  apply List.ext_getElem?
  intro k
  by_cases hk : k < n
  · rw [e_ws_at hk]
    by_cases hka : a = k
    · subst hka
      rw [List.getElem?_set_self (by rw [e_ws_len]; exact hk), hx]
    · rw [List.getElem?_set_ne hka, e_ws_at hk]
      have e1 := hI k (Ne.symm hka)
      have e2 := hL k (Ne.symm hka)
      have : e_cell ad cA I L k = e_cell ad cA I' L' k := by
        unfold e_cell e_fs e_fld
        rw [e1, e2]
      rw [this]
  · have h1 : ((e_ws ad cA n I L).set a (ad a, x)).length ≤ k := by rw [List.length_set, e_ws_len]; omega
    have h2 : (e_ws ad cA n I' L').length ≤ k := by rw [e_ws_len]; omega
    rw [List.getElem?_eq_none h1, List.getElem?_eq_none h2]
theorem e_ws_D {ad : Nat → Nat} {cA : Nat → ClassId} {n : Nat} {I : e_I} {L : e_L} {A : Nat → Prop} (h1 : ∀ i j, i < n → j < n → ad i = ad j → i = j) (h2 : ∀ i, i < n → A (ad i)) : va_D A (e_ws ad cA n I L) := by
  refine ⟨fun i j p q hi hj hpq => ?_, fun k q hk => ?_⟩
  · obtain ⟨hi', rfl⟩ := e_ws_lt hi
    obtain ⟨hj', rfl⟩ := e_ws_lt hj
    exact h1 i j hi' hj' hpq
  · obtain ⟨hk', rfl⟩ := e_ws_lt hk
    exact h2 k hk'
/-- cell a is there and is an object of class t (or an array of kind t) -/
def e_at (n a t : Nat) : Prop := a < n ∧ (gS a).1 = t
/-- cell a is there and is an array of kind t and length k -/
def e_ar (n a t k : Nat) : Prop := a < n ∧ gS a = (t, k)
/-- entry `index` of class own's pool is field i, of type desc, of class ci -/
def e_fk (own : String) (index ci i : Nat) (desc : String) : Prop := ci < 9 ∧ i < (e_cl ci).2.2 ∧ ((e_cl ci).2.1 i).2.2.1 = desc ∧ Cond.fieldLink own index ((e_cl ci).2.1 i).1 ((e_cl ci).2.1 i).2.1 ((e_cl ci).2.1 i).2.2.1 ∈ e_tbl
theorem e_hin : ∀ {ci : Nat}, ci < 9 → ∀ w ∈ u_ws (e_cl ci).1 (e_cl ci).2.1 (e_cl ci).2.2, w ∈ e_tbl := by
  have h : ∀ ci, ci < 9 → ∀ w ∈ u_ws (e_cl ci).1 (e_cl ci).2.1 (e_cl ci).2.2, w ∈ e_tbl := by decide +kernel
  exact fun {ci} => h ci
theorem e_cl_at {ci : Nat} (h : ci < 9) : vwCl[ci]? = some ((e_cl ci).1, (e_cl ci).2.1, (e_cl ci).2.2) := by
  have hl : ci < vwCl.length := h
  unfold e_cl
  rw [List.getD_eq_getElem?_getD, List.getElem?_eq_getElem hl]
  rfl
theorem e_tyok {ci : Nat} (h : ci < 9) : ∃ ty0 : Nat → FieldType, (∀ k, k < (e_cl ci).2.2 → parseFieldDescriptor ((e_cl ci).2.1 k).2.2.1 = some (ty0 k)) ∧ (∀ a, a < (e_cl ci).2.2 → ∀ b, b < (e_cl ci).2.2 → a ≠ b → ((e_cl ci).2.1 a).2.1 ≠ ((e_cl ci).2.1 b).2.1) := by
  have h1 : ∀ ci, ci < 9 → ∀ k, k < (e_cl ci).2.2 → (parseFieldDescriptor ((e_cl ci).2.1 k).2.2.1).isSome = true := by decide +kernel
  have h2 : ∀ ci, ci < 9 → ∀ a, a < (e_cl ci).2.2 → ∀ b, b < (e_cl ci).2.2 → a ≠ b → ((e_cl ci).2.1 a).2.1 ≠ ((e_cl ci).2.1 b).2.1 := by decide +kernel
  refine ⟨fun k => (parseFieldDescriptor ((e_cl ci).2.1 k).2.2.1).getD .int, fun k hk => ?_, h2 ci h⟩
  have := h1 ci h k hk
  cases hp : parseFieldDescriptor ((e_cl ci).2.1 k).2.2.1 with
  | none => rw [hp] at this; cases this
  | some t => simp [hp]
theorem e_fs_at {ad : Nat → Nat} {I : e_I} {L : e_L} {t k i : Nat} {v : Value} (h : i < (e_cl t).2.2) (hv : e_fld ad I L (e_cl t).2.1 k i = v) : (e_fs ad I L t k)[i]? = some v := by
  unfold e_fs
  rw [List.getElem?_map, List.getElem?_range h, ← hv]; rfl
theorem e_ws_obj {ad : Nat → Nat} {cA : Nat → ClassId} {n : Nat} {I : e_I} {L : e_L} {a ci : Nat} (h : e_at n a ci) (hc : ci < 9) : (e_ws ad cA n I L)[a]? = some (ad a, .inr (ci, e_fs ad I L ci a)) := by
  rw [e_ws_at h.1]
  unfold e_cell
  rw [h.2, if_pos hc]
theorem e_ws_i {ad : Nat → Nat} {cA : Nat → ClassId} {n : Nat} {I : e_I} {L : e_L} {a t k : Nat} (h : e_ar n a t k) (h1 : t = 9 ∨ t = 10 ∨ t = 11) : (e_ws ad cA n I L)[a]? = some (ad a, .inl (cA t, k, .inl (I a))) := by
  rw [e_ws_at h.1]
  unfold e_cell
  rw [h.2]
  rcases h1 with rfl | rfl | rfl <;> rfl
theorem e_ws_l {ad : Nat → Nat} {cA : Nat → ClassId} {n : Nat} {I : e_I} {L : e_L} {a k : Nat} (h : e_ar n a 12 k) : (e_ws ad cA n I L)[a]? = some (ad a, .inl (cA 12, k, .inr (.inl (L a)))) := by
  rw [e_ws_at h.1]
  unfold e_cell
  rw [h.2]
  rfl
theorem e_ws_q {ad : Nat → Nat} {cA : Nat → ClassId} {n : Nat} {I : e_I} {L : e_L} {a k : Nat} (h : e_ar n a 13 k) : (e_ws ad cA n I L)[a]? = some (ad a, .inl (cA 13, k, .inr (.inr (.inr (.inr (fun j => (gR a j).map ad)))))) := by
  rw [e_ws_at h.1]
  unfold e_cell
  rw [h.2]
  rfl
theorem e_fs_set {ad : Nat → Nat} {I I' : e_I} {L L' : e_L} {t k i : Nat} {v : Value} (hv : e_fld ad I' L' (e_cl t).2.1 k i = v) (ho : ∀ j, j ≠ i → e_fld ad I' L' (e_cl t).2.1 k j = e_fld ad I L (e_cl t).2.1 k j) : (e_fs ad I L t k).set i v = e_fs ad I' L' t k := by
  apply List.ext_getElem?
  intro j
  unfold e_fs
  by_cases hj : j < (e_cl t).2.2
  · rw [List.getElem?_map, List.getElem?_range hj]
    by_cases hij : i = j
    · subst hij
      rw [List.getElem?_set_self (by simpa using hj), ← hv]; rfl
    · rw [List.getElem?_set_ne hij, List.getElem?_map, List.getElem?_range hj]
      exact congrArg some (ho j (Ne.symm hij)).symm
  · rw [List.getElem?_eq_none (by simp; omega), List.getElem?_eq_none (by simp; omega)]
theorem e_cell_putI {ad : Nat → Nat} {cA : Nat → ClassId} {n : Nat} {I : e_I} {L : e_L} {a ci i : Nat} {x : Int32} (h : e_at n a ci) (hc : ci < 9) (hk : e_kd ((e_cl ci).2.1 i).2.2.1 = 0) : e_cell ad cA (e_ui I a i x) L a = .inr (ci, (e_fs ad I L ci a).set i (.int x)) := by
  rw [e_fs_set (I' := e_ui I a i x) (L' := L)]
  · unfold e_cell
    rw [h.2, if_pos hc]
  · simp [e_fld, hk, e_ui]
  · intro j hj
    simp [e_fld, e_ui, hj]
theorem e_cell_putL {ad : Nat → Nat} {cA : Nat → ClassId} {n : Nat} {I : e_I} {L : e_L} {a ci i : Nat} {x : Int64} (h : e_at n a ci) (hc : ci < 9) (hk : e_kd ((e_cl ci).2.1 i).2.2.1 = 1) : e_cell ad cA I (e_ul L a i x) a = .inr (ci, (e_fs ad I L ci a).set i (.long x)) := by
  rw [e_fs_set (I' := I) (L' := e_ul L a i x)]
  · unfold e_cell
    rw [h.2, if_pos hc]
  · simp [e_fld, hk, e_ul]
  · intro j hj
    simp [e_fld, e_ul, hj]
theorem e_ui_off {I : e_I} {a i : Nat} {x : Int32} : ∀ b, b ≠ a → e_ui I a i x b = I b := fun b hb => by funext j; simp [e_ui, hb]
theorem e_ul_off {I : e_L} {a i : Nat} {x : Int64} : ∀ b, b ≠ a → e_ul I a i x b = I b := fun b hb => by funext j; simp [e_ul, hb]
theorem e_cpy_off {I : e_I} {a0 sp a1 dp n : Nat} : ∀ b, b ≠ a1 → e_cpy I a0 sp a1 dp n b = I b := fun b hb => by funext j; simp [e_cpy, hb]
theorem e_ui_at {I : e_I} {a i : Nat} {x : Int32} : e_ui I a i x a = upd (I a) i x := by funext j; simp [e_ui, upd]
theorem e_ul_at {I : e_L} {a i : Nat} {x : Int64} : e_ul I a i x a = vp_updL (I a) i x := by funext j; simp [e_ul, vp_updL]
theorem e_cpy_at {I : e_I} {a0 sp a1 dp n : Nat} : e_cpy I a0 sp a1 dp n a1 = va_cpy (I a0) (I a1) sp dp n := by funext j; simp [e_cpy]
theorem e_cell_i {ad : Nat → Nat} {cA : Nat → ClassId} {n : Nat} {I : e_I} {L : e_L} {a t k : Nat} (h : e_ar n a t k) (h1 : t = 9 ∨ t = 10 ∨ t = 11) : e_cell ad cA I L a = .inl (cA t, k, .inl (I a)) := by
  unfold e_cell
  rw [h.2]
  rcases h1 with rfl | rfl | rfl <;> rfl
theorem e_cell_l {ad : Nat → Nat} {cA : Nat → ClassId} {n : Nat} {I : e_I} {L : e_L} {a k : Nat} (h : e_ar n a 12 k) : e_cell ad cA I L a = .inl (cA 12, k, .inr (.inl (L a))) := by
  unfold e_cell
  rw [h.2]
  rfl
/-! WHAT LIES BELOW THE WORLD: the String constants, the links between nest mates, String.COMPACT_STRINGS; a String constant is the cell 1000 + i, its bytes 2000 + i -/
def e_str : List (String × Nat × String × Nat) := [("RunWorth$Tape", 25, "single", 0), ("RunWorth$Tape", 31, "double", 1), ("RunWorth$Tape", 33, "fly", 2), ("RunWorth$Tape", 35, "steal", 3), ("RunWorth$Tape", 37, "tire", 4), ("RunWorth$Tape", 39, "batter", 5), ("RunWorthModel", 106, "batter", 5), ("RunWorthModel", 112, "single", 0), ("RunWorthModel", 114, "double", 1), ("RunWorthModel", 116, "fly", 2), ("RunWorthModel", 118, "steal", 3), ("RunWorthModel", 120, "tire", 4), ("RunWorth", 357, "no batter of that name", 6)]
def e_txt : List String := ["single", "double", "fly", "steal", "tire", "batter", "no batter of that name"]
def e_slen : List Nat := e_txt.map (fun q => q.length)
def e_sbyt : List (List Int32) := e_txt.map (fun q => q.toList.map (fun ch => Int32.ofNat ch.toNat))
def e_nest : List (String × Nat × MethodName) := [("RunWorth", 11, ⟨"RunWorth$Tape", "<init>", "()V"⟩), ("RunWorth", 22, ⟨"RunWorth$Game", "<init>", "()V"⟩), ("RunWorth", 39, ⟨"RunWorth$Means", "<init>", "()V"⟩), ("RunWorth", 46, ⟨"RunWorth$Orders", "<init>", "()V"⟩), ("RunWorth", 53, ⟨"RunWorth$Player", "<init>", "()V"⟩), ("RunWorth$Game", 63, ⟨"RunWorth", "within", "(III)Z"⟩), ("RunWorth$Means", 11, ⟨"RunWorth$Moves", "<init>", "()V"⟩), ("RunWorth$Means", 32, ⟨"RunWorth", "within", "(III)Z"⟩), ("RunWorth$Moves", 18, ⟨"RunWorth", "basesOf", "(I)I"⟩), ("RunWorth$Moves", 26, ⟨"RunWorth", "outsOf", "(I)I"⟩), ("RunWorth$Moves", 43, ⟨"RunWorth", "stateOf", "(II)I"⟩), ("RunWorth$Orders", 42, ⟨"RunWorth", "within", "(III)Z"⟩), ("RunWorth$Past", 17, ⟨"RunWorth$Game", "<init>", "()V"⟩), ("RunWorth$Tape", 116, ⟨"RunWorth", "isRule", "(II)Z"⟩)]
def e_decl : List MethodName := [⟨"java/lang/RuntimeException", "<init>", "(Ljava/lang/String;)V"⟩, ⟨"java/lang/Exception", "<init>", "(Ljava/lang/String;)V"⟩, ⟨"java/lang/Throwable", "<init>", "(Ljava/lang/String;)V"⟩]
def e_RO (ad : Nat → Nat) (base : Nat) (U : State) (H : Heap) : Prop :=
  vk_S 7 e_slen e_sbyt (fun i => ad (1000 + i)) (fun i => ad (2000 + i)) (fun q => base ≤ q) U H ∧ (∀ (i : Nat) (q : String × Nat × String × Nat), e_str[i]? = some q → vk_R q.1 q.2.1 q.2.2.1 (ad (1000 + q.2.2.2)) U) ∧
  va_Z "java/lang/String" "COMPACT_STRINGS" "Z" (.int 1) (fun q => base ≤ q) U H ∧ (∀ q ∈ e_nest, va_Nw (.methodLinkNest q.1 q.2.1 q.2.2 "RunWorth") U) ∧
  (va_Z "jdk/internal/util/Preconditions" "SIOOBE_FORMATTER" "Ljava/util/function/BiFunction;" .null (fun q => base ≤ q) U H ∨ va_Z "jdk/internal/util/Preconditions" "SIOOBE_FORMATTER" "Ljava/util/function/BiFunction;" (.ref (ad 3000)) (fun q => base ≤ q) U H) ∧
  vx_Zq Bundle.tN "UNASSIGNED_STACK" Bundle.steD (fun q => base ≤ q) U H ∧ vx_Zq Bundle.tN "SUPPRESSED_SENTINEL" Bundle.listD (fun q => base ≤ q) U H ∧ va_AO "RunWorth$Game" U ∧ va_Nw (.castable "java/util/NoSuchElementException" "java/util/NoSuchElementException") U ∧ ∀ x ∈ e_decl, va_Nw (.declares x) U
theorem e_RO.warm {ad : Nat → Nat} {base : Nat} {s U : State} {H0 H : Heap} (h : e_RO ad base s H0) (hW : s.WarmedH U.vm) (hq : ∀ a : Nat, a < H0.size → ¬ base ≤ a → H[a]? = H0[a]?) : e_RO ad base U H := by
  obtain ⟨h1, h2, h3, h4, h5, h6, h7, h8, h9, h10⟩ := h
  exact ⟨(h1.moved hW.alike).kept hq, fun i q hi => (h2 i q hi).warm hW, (h3.moved hW.alike).kept hq, fun q hq => va_Nw.warmM hW (h4 q hq), h5.imp (fun h => (h.moved hW.alike).kept hq) (fun h => (h.moved hW.alike).kept hq), (h6.moved hW.alike).kept hq, (h7.moved hW.alike).kept hq, h8.moved hW.alike, va_Nw.warmC hW h9, fun x hx => va_Nw.warmD hW (h10 x hx)⟩
/-! THE JUDGEMENT -/
/-- all that stands still while one method runs: program, launch, .. ; how many locals; addresses; where the world begins; classes; arrays' classes; what was made; how many cells the world has -/
abbrev e_X : Type := Program × Launch × Env × Room × State × MethodId × Array Value × List Frame × Method × Code × (Nat × (Nat → Nat) × Nat × va_G × (Nat → ClassId) × Nat × Nat × Nat)
abbrev e_A (base : Nat) : Nat → Prop := fun q => base ≤ q
/-- at pc, with the locals lv, the stack st, the memory I, L: it comes to a state with Q -/
def Z (X : e_X) (Q : State → Prop) (pc : Nat) (lv : List (Nat × Value)) (st : List Value) (I : e_I) (L : e_L) : Prop := match X with
  | (p, l, e, R, s, m, args, below, meth, c, nL, ad, base, D, cA, k1, k2, n) =>
    ∀ (H : Heap) (locs : List Loc) (ls : Array Slot), va_P D vwCl (e_ws ad cA n I L) H → va_S (e_A base) s.heap H locs → lv_has ls nL (lv.map (fun q => (q.1, cv ad q.2))) →
      W p l e R s m args below meth c H locs k1 k2 Q (F0 m pc ls (st.map (cv ad)))
/-- what holds while one method runs -/
def e_C (X : e_X) (cc : ByteArray) (own : String) (nL : Nat) (ret : Option FieldType) (d n : Nat) : Prop := match X with
  | (p, _, _, R, s, m, args, _, meth, c, nL', ad, base, D, cA, k1, k2, n') =>
    p.tables.exec = Jvm.exec ∧ c.code = cc ∧ c.maxLocals = nL' ∧ s.vm.findClass own = some m.cls ∧ (∀ w ∈ e_tbl, w.before args s = true) ∧ va_K D vwCl (e_tys cA) s ∧ base ≤ s.heap.size ∧
    (d + 1 ≤ R.frames ∧ 40 * (d + 1) ≤ R.locals) ∧ (k1 ≤ R.cells ∧ k2 ≤ R.slots) ∧ (∀ i j, i < n' → j < n' → ad i = ad j → i = j) ∧ (∀ i, i < n' → base ≤ ad i) ∧ meth.locks = false ∧ e_RO ad base s s.heap ∧ n' = n ∧ nL' = nL ∧ meth.sig.returnType = ret
theorem cv_cat (ad : Nat → Nat) (v : Value) : (cv ad v).category = v.category := by cases v <;> rfl
theorem cv_cats (ad : Nat → Nat) (st : List Value) : ((st.map (cv ad)).map fun v => v.category).sum = (st.map fun v => v.category).sum := by
  induction st with
  | nil => rfl
  | cons v st ih => simp only [List.map_cons, List.sum_cons, cv_cat, ih]
theorem cv_filt (ad : Nat → Nat) (i : Nat) (lv : List (Nat × Value)) : (lv.map (fun q => (q.1, cv ad q.2))).filter (fun q => !(q.1 == i) && !(q.1 + 1 == i && q.2.category == 2)) = (lv.filter (fun q => !(q.1 == i) && !(q.1 + 1 == i && q.2.category == 2))).map (fun q => (q.1, cv ad q.2)) := by
  rw [List.filter_map]
  congr 1
  apply List.filter_congr
  intro q _
  simp only [Function.comp, cv_cat]
theorem cv_filt2 (ad : Nat → Nat) (i : Nat) (lv : List (Nat × Value)) : (lv.map (fun q => (q.1, cv ad q.2))).filter (fun q => !(q.1 == i) && (!(q.1 == i + 1) && !(q.1 + 1 == i && q.2.category == 2))) = (lv.filter (fun q => !(q.1 == i) && (!(q.1 == i + 1) && !(q.1 + 1 == i && q.2.category == 2)))).map (fun q => (q.1, cv ad q.2)) := by
  rw [List.filter_map]
  congr 1
  apply List.filter_congr
  intro q _
  simp only [Function.comp, cv_cat]
theorem cv_at {ad : Nat → Nat} {ls : Array Slot} {nL : Nat} {lv : List (Nat × Value)} (h : lv_has ls nL (lv.map (fun q => (q.1, cv ad q.2)))) (k : Nat) {i : Nat} {v : Value} (hk : lv[k]? = some (i, v)) : ls[i]? = some (.val (cv ad v)) := by
  refine lv_at h k (i := i) (v := cv ad v) ?_
  rw [List.getElem?_map, hk]; rfl
theorem e_pick_map (f : Nat × Value → Nat × Value) (l : List (Nat × Value)) (ks : List Nat) : lv_pick (l.map f) ks = (lv_pick l ks).map f := by
  unfold lv_pick
  induction ks with
  | nil => rfl
  | cons k ks ih =>
    rw [List.filterMap_cons, List.filterMap_cons, List.getElem?_map]
    cases l[k]? with
    | none => exact ih
    | some x => exact congrArg (f x :: ·) ih
/-- fewer locals, in another order -/
theorem Z.sub {X : e_X} {Q : State → Prop} {pc : Nat} {lv lv' : List (Nat × Value)} {st : List Value} {I : e_I} {L : e_L} (ks : List Nat) (hl : lv_pick lv ks = lv') (k : Z X Q pc lv' st I L) : Z X Q pc lv st I L := by
  obtain ⟨p, l, e, R, s, m, args, below, meth, c, nL, ad, base, D, cA, k1, k2, n⟩ := X
  intro H locs ls hP hS hl'
  refine k H locs ls hP hS (lv_sub hl' ks ?_)
  rw [← hl, e_pick_map]
theorem e_narZ {x : Int32} (h : x = 0 ∨ x = 1) : narrow .boolean (.int x) = .int x := by rcases h with rfl | rfl <;> rfl
theorem e_fitZ {x : Int32} (h : x = 0 ∨ x = 1) : fits .boolean (.int x) = true := by rcases h with rfl | rfl <;> rfl

section EZ
variable {X : e_X} {cc : ByteArray} {own : String} {nl d nW : Nat} {rt : Option FieldType} {Q : State → Prop} {pc : Nat} {lv : List (Nat × Value)} {st : List Value} {I : e_I} {L : e_L}
theorem z_iconst (hC : e_C X cc own nl rt d nW) {n : Int} {v : Int32} (hv : Int32.ofInt n = v) (hd : decode cc pc = .ok (.iconst n, 1)) (k : Z X Q (pc + 1) lv (.int v :: st) I L) : Z X Q pc lv (st) I L := by
  obtain ⟨p, l, e, R, s, m, args, below, meth, c, nL, ad, base, D, cA, k1, k2, n⟩ := X
  obtain ⟨hx, hb, hml, hown, hts, hK, hbase, hR, hk, hinj, had, hlk, hRO, rfl, rfl, hrt⟩ := hC
  intro H locs ls hP hS hl
  exact lv_iconst hx hb hd hv (k H locs ls hP hS hl)
theorem z_bipush (hC : e_C X cc own nl rt d nW) {n : Int} {v : Int32} (hv : (Int8.ofInt n).toInt32 = v) (hd : decode cc pc = .ok (.bipush n, 2)) (k : Z X Q (pc + 2) lv (.int v :: st) I L) : Z X Q pc lv (st) I L := by
  obtain ⟨p, l, e, R, s, m, args, below, meth, c, nL, ad, base, D, cA, k1, k2, n⟩ := X
  obtain ⟨hx, hb, hml, hown, hts, hK, hbase, hR, hk, hinj, had, hlk, hRO, rfl, rfl, hrt⟩ := hC
  intro H locs ls hP hS hl
  exact lv_bipush hx hb hd hv (k H locs ls hP hS hl)
theorem z_sipush (hC : e_C X cc own nl rt d nW) {n : Int} {v : Int32} (hv : (Int16.ofInt n).toInt32 = v) (hd : decode cc pc = .ok (.sipush n, 3)) (k : Z X Q (pc + 3) lv (.int v :: st) I L) : Z X Q pc lv (st) I L := by
  obtain ⟨p, l, e, R, s, m, args, below, meth, c, nL, ad, base, D, cA, k1, k2, n⟩ := X
  obtain ⟨hx, hb, hml, hown, hts, hK, hbase, hR, hk, hinj, had, hlk, hRO, rfl, rfl, hrt⟩ := hC
  intro H locs ls hP hS hl
  exact lv_sipush hx hb hd hv (k H locs ls hP hS hl)
theorem z_lconst (hC : e_C X cc own nl rt d nW) {n : Fin 2} {v : Int64} (hv : Int64.ofNat (n : Nat) = v) (hd : decode cc pc = .ok (.lconst n, 1)) (k : Z X Q (pc + 1) lv (.long v :: st) I L) : Z X Q pc lv (st) I L := by
  obtain ⟨p, l, e, R, s, m, args, below, meth, c, nL, ad, base, D, cA, k1, k2, n⟩ := X
  obtain ⟨hx, hb, hml, hown, hts, hK, hbase, hR, hk, hinj, had, hlk, hRO, rfl, rfl, hrt⟩ := hC
  intro H locs ls hP hS hl
  exact lv_lconst hx hb hd hv (k H locs ls hP hS hl)
theorem z_iadd (hC : e_C X cc own nl rt d nW) {x y : Int32} (hd : decode cc pc = .ok (.iadd, 1)) (k : Z X Q (pc + 1) lv (.int (x + y) :: st) I L) : Z X Q pc lv (.int y :: .int x :: st) I L := by
  obtain ⟨p, l, e, R, s, m, args, below, meth, c, nL, ad, base, D, cA, k1, k2, n⟩ := X
  obtain ⟨hx, hb, hml, hown, hts, hK, hbase, hR, hk, hinj, had, hlk, hRO, rfl, rfl, hrt⟩ := hC
  intro H locs ls hP hS hl
  exact lv_iadd hx hb hd (k H locs ls hP hS hl)
theorem z_isub (hC : e_C X cc own nl rt d nW) {x y : Int32} (hd : decode cc pc = .ok (.isub, 1)) (k : Z X Q (pc + 1) lv (.int (x - y) :: st) I L) : Z X Q pc lv (.int y :: .int x :: st) I L := by
  obtain ⟨p, l, e, R, s, m, args, below, meth, c, nL, ad, base, D, cA, k1, k2, n⟩ := X
  obtain ⟨hx, hb, hml, hown, hts, hK, hbase, hR, hk, hinj, had, hlk, hRO, rfl, rfl, hrt⟩ := hC
  intro H locs ls hP hS hl
  exact lv_isub hx hb hd (k H locs ls hP hS hl)
theorem z_imul (hC : e_C X cc own nl rt d nW) {x y : Int32} (hd : decode cc pc = .ok (.imul, 1)) (k : Z X Q (pc + 1) lv (.int (x * y) :: st) I L) : Z X Q pc lv (.int y :: .int x :: st) I L := by
  obtain ⟨p, l, e, R, s, m, args, below, meth, c, nL, ad, base, D, cA, k1, k2, n⟩ := X
  obtain ⟨hx, hb, hml, hown, hts, hK, hbase, hR, hk, hinj, had, hlk, hRO, rfl, rfl, hrt⟩ := hC
  intro H locs ls hP hS hl
  exact lv_imul hx hb hd (k H locs ls hP hS hl)
theorem z_iand (hC : e_C X cc own nl rt d nW) {x y : Int32} (hd : decode cc pc = .ok (.iand, 1)) (k : Z X Q (pc + 1) lv (.int (x &&& y) :: st) I L) : Z X Q pc lv (.int y :: .int x :: st) I L := by
  obtain ⟨p, l, e, R, s, m, args, below, meth, c, nL, ad, base, D, cA, k1, k2, n⟩ := X
  obtain ⟨hx, hb, hml, hown, hts, hK, hbase, hR, hk, hinj, had, hlk, hRO, rfl, rfl, hrt⟩ := hC
  intro H locs ls hP hS hl
  exact lv_iand hx hb hd (k H locs ls hP hS hl)
theorem z_ior (hC : e_C X cc own nl rt d nW) {x y : Int32} (hd : decode cc pc = .ok (.ior, 1)) (k : Z X Q (pc + 1) lv (.int (x ||| y) :: st) I L) : Z X Q pc lv (.int y :: .int x :: st) I L := by
  obtain ⟨p, l, e, R, s, m, args, below, meth, c, nL, ad, base, D, cA, k1, k2, n⟩ := X
  obtain ⟨hx, hb, hml, hown, hts, hK, hbase, hR, hk, hinj, had, hlk, hRO, rfl, rfl, hrt⟩ := hC
  intro H locs ls hP hS hl
  exact lv_ior hx hb hd (k H locs ls hP hS hl)
theorem z_ixor (hC : e_C X cc own nl rt d nW) {x y : Int32} (hd : decode cc pc = .ok (.ixor, 1)) (k : Z X Q (pc + 1) lv (.int (x ^^^ y) :: st) I L) : Z X Q pc lv (.int y :: .int x :: st) I L := by
  obtain ⟨p, l, e, R, s, m, args, below, meth, c, nL, ad, base, D, cA, k1, k2, n⟩ := X
  obtain ⟨hx, hb, hml, hown, hts, hK, hbase, hR, hk, hinj, had, hlk, hRO, rfl, rfl, hrt⟩ := hC
  intro H locs ls hP hS hl
  exact lv_ixor hx hb hd (k H locs ls hP hS hl)
theorem z_ishl (hC : e_C X cc own nl rt d nW) {x y : Int32} (hd : decode cc pc = .ok (.ishl, 1)) (k : Z X Q (pc + 1) lv (.int (x <<< (y &&& 31)) :: st) I L) : Z X Q pc lv (.int y :: .int x :: st) I L := by
  obtain ⟨p, l, e, R, s, m, args, below, meth, c, nL, ad, base, D, cA, k1, k2, n⟩ := X
  obtain ⟨hx, hb, hml, hown, hts, hK, hbase, hR, hk, hinj, had, hlk, hRO, rfl, rfl, hrt⟩ := hC
  intro H locs ls hP hS hl
  exact lv_ishl hx hb hd (k H locs ls hP hS hl)
theorem z_ishr (hC : e_C X cc own nl rt d nW) {x y : Int32} (hd : decode cc pc = .ok (.ishr, 1)) (k : Z X Q (pc + 1) lv (.int (x >>> (y &&& 31)) :: st) I L) : Z X Q pc lv (.int y :: .int x :: st) I L := by
  obtain ⟨p, l, e, R, s, m, args, below, meth, c, nL, ad, base, D, cA, k1, k2, n⟩ := X
  obtain ⟨hx, hb, hml, hown, hts, hK, hbase, hR, hk, hinj, had, hlk, hRO, rfl, rfl, hrt⟩ := hC
  intro H locs ls hP hS hl
  exact lv_ishr hx hb hd (k H locs ls hP hS hl)
theorem z_ineg (hC : e_C X cc own nl rt d nW) {x : Int32} (hd : decode cc pc = .ok (.ineg, 1)) (k : Z X Q (pc + 1) lv (.int (-x) :: st) I L) : Z X Q pc lv (.int x :: st) I L := by
  obtain ⟨p, l, e, R, s, m, args, below, meth, c, nL, ad, base, D, cA, k1, k2, n⟩ := X
  obtain ⟨hx, hb, hml, hown, hts, hK, hbase, hR, hk, hinj, had, hlk, hRO, rfl, rfl, hrt⟩ := hC
  intro H locs ls hP hS hl
  exact lv_ineg hx hb hd (k H locs ls hP hS hl)
theorem z_lneg (hC : e_C X cc own nl rt d nW) {x : Int64} (hd : decode cc pc = .ok (.lneg, 1)) (k : Z X Q (pc + 1) lv (.long (-x) :: st) I L) : Z X Q pc lv (.long x :: st) I L := by
  obtain ⟨p, l, e, R, s, m, args, below, meth, c, nL, ad, base, D, cA, k1, k2, n⟩ := X
  obtain ⟨hx, hb, hml, hown, hts, hK, hbase, hR, hk, hinj, had, hlk, hRO, rfl, rfl, hrt⟩ := hC
  intro H locs ls hP hS hl
  exact lv_lneg hx hb hd (k H locs ls hP hS hl)
theorem z_ladd (hC : e_C X cc own nl rt d nW) {x y : Int64} (hd : decode cc pc = .ok (.ladd, 1)) (k : Z X Q (pc + 1) lv (.long (x + y) :: st) I L) : Z X Q pc lv (.long y :: .long x :: st) I L := by
  obtain ⟨p, l, e, R, s, m, args, below, meth, c, nL, ad, base, D, cA, k1, k2, n⟩ := X
  obtain ⟨hx, hb, hml, hown, hts, hK, hbase, hR, hk, hinj, had, hlk, hRO, rfl, rfl, hrt⟩ := hC
  intro H locs ls hP hS hl
  exact lv_ladd hx hb hd (k H locs ls hP hS hl)
theorem z_lsub (hC : e_C X cc own nl rt d nW) {x y : Int64} (hd : decode cc pc = .ok (.lsub, 1)) (k : Z X Q (pc + 1) lv (.long (x - y) :: st) I L) : Z X Q pc lv (.long y :: .long x :: st) I L := by
  obtain ⟨p, l, e, R, s, m, args, below, meth, c, nL, ad, base, D, cA, k1, k2, n⟩ := X
  obtain ⟨hx, hb, hml, hown, hts, hK, hbase, hR, hk, hinj, had, hlk, hRO, rfl, rfl, hrt⟩ := hC
  intro H locs ls hP hS hl
  exact lv_lsub hx hb hd (k H locs ls hP hS hl)
theorem z_lmul (hC : e_C X cc own nl rt d nW) {x y : Int64} (hd : decode cc pc = .ok (.lmul, 1)) (k : Z X Q (pc + 1) lv (.long (x * y) :: st) I L) : Z X Q pc lv (.long y :: .long x :: st) I L := by
  obtain ⟨p, l, e, R, s, m, args, below, meth, c, nL, ad, base, D, cA, k1, k2, n⟩ := X
  obtain ⟨hx, hb, hml, hown, hts, hK, hbase, hR, hk, hinj, had, hlk, hRO, rfl, rfl, hrt⟩ := hC
  intro H locs ls hP hS hl
  exact lv_lmul hx hb hd (k H locs ls hP hS hl)
theorem z_idiv (hC : e_C X cc own nl rt d nW) {x y : Int32} (hy : ¬ y = 0) (hd : decode cc pc = .ok (.idiv, 1)) (k : Z X Q (pc + 1) lv (.int (x / y) :: st) I L) : Z X Q pc lv (.int y :: .int x :: st) I L := by
  obtain ⟨p, l, e, R, s, m, args, below, meth, c, nL, ad, base, D, cA, k1, k2, n⟩ := X
  obtain ⟨hx, hb, hml, hown, hts, hK, hbase, hR, hk, hinj, had, hlk, hRO, rfl, rfl, hrt⟩ := hC
  intro H locs ls hP hS hl
  exact lv_idiv hx hb hd hy (k H locs ls hP hS hl)
theorem z_irem (hC : e_C X cc own nl rt d nW) {x y : Int32} (hy : ¬ y = 0) (hd : decode cc pc = .ok (.irem, 1)) (k : Z X Q (pc + 1) lv (.int (x - x / y * y) :: st) I L) : Z X Q pc lv (.int y :: .int x :: st) I L := by
  obtain ⟨p, l, e, R, s, m, args, below, meth, c, nL, ad, base, D, cA, k1, k2, n⟩ := X
  obtain ⟨hx, hb, hml, hown, hts, hK, hbase, hR, hk, hinj, had, hlk, hRO, rfl, rfl, hrt⟩ := hC
  intro H locs ls hP hS hl
  exact lv_irem hx hb hd hy (k H locs ls hP hS hl)
theorem z_ldiv (hC : e_C X cc own nl rt d nW) {x y : Int64} (hy : ¬ y = 0) (hd : decode cc pc = .ok (.ldiv, 1)) (k : Z X Q (pc + 1) lv (.long (x / y) :: st) I L) : Z X Q pc lv (.long y :: .long x :: st) I L := by
  obtain ⟨p, l, e, R, s, m, args, below, meth, c, nL, ad, base, D, cA, k1, k2, n⟩ := X
  obtain ⟨hx, hb, hml, hown, hts, hK, hbase, hR, hk, hinj, had, hlk, hRO, rfl, rfl, hrt⟩ := hC
  intro H locs ls hP hS hl
  exact lv_ldiv hx hb hd hy (k H locs ls hP hS hl)
theorem z_lrem (hC : e_C X cc own nl rt d nW) {x y : Int64} (hy : ¬ y = 0) (hd : decode cc pc = .ok (.lrem, 1)) (k : Z X Q (pc + 1) lv (.long (x - x / y * y) :: st) I L) : Z X Q pc lv (.long y :: .long x :: st) I L := by
  obtain ⟨p, l, e, R, s, m, args, below, meth, c, nL, ad, base, D, cA, k1, k2, n⟩ := X
  obtain ⟨hx, hb, hml, hown, hts, hK, hbase, hR, hk, hinj, had, hlk, hRO, rfl, rfl, hrt⟩ := hC
  intro H locs ls hP hS hl
  exact lv_lrem hx hb hd hy (k H locs ls hP hS hl)
theorem z_i2l (hC : e_C X cc own nl rt d nW) {x : Int32} (hd : decode cc pc = .ok (.i2l, 1)) (k : Z X Q (pc + 1) lv (.long x.toInt64 :: st) I L) : Z X Q pc lv (.int x :: st) I L := by
  obtain ⟨p, l, e, R, s, m, args, below, meth, c, nL, ad, base, D, cA, k1, k2, n⟩ := X
  obtain ⟨hx, hb, hml, hown, hts, hK, hbase, hR, hk, hinj, had, hlk, hRO, rfl, rfl, hrt⟩ := hC
  intro H locs ls hP hS hl
  exact lv_i2l hx hb hd rfl (k H locs ls hP hS hl)
theorem z_l2i (hC : e_C X cc own nl rt d nW) {x : Int64} (hd : decode cc pc = .ok (.l2i, 1)) (k : Z X Q (pc + 1) lv (.int x.toInt32 :: st) I L) : Z X Q pc lv (.long x :: st) I L := by
  obtain ⟨p, l, e, R, s, m, args, below, meth, c, nL, ad, base, D, cA, k1, k2, n⟩ := X
  obtain ⟨hx, hb, hml, hown, hts, hK, hbase, hR, hk, hinj, had, hlk, hRO, rfl, rfl, hrt⟩ := hC
  intro H locs ls hP hS hl
  exact lv_l2i hx hb hd rfl (k H locs ls hP hS hl)
theorem z_i2b (hC : e_C X cc own nl rt d nW) {x : Int32} (hd : decode cc pc = .ok (.i2b, 1)) (k : Z X Q (pc + 1) lv (.int x.toInt8.toInt32 :: st) I L) : Z X Q pc lv (.int x :: st) I L := by
  obtain ⟨p, l, e, R, s, m, args, below, meth, c, nL, ad, base, D, cA, k1, k2, n⟩ := X
  obtain ⟨hx, hb, hml, hown, hts, hK, hbase, hR, hk, hinj, had, hlk, hRO, rfl, rfl, hrt⟩ := hC
  intro H locs ls hP hS hl
  exact lv_i2b hx hb hd rfl (k H locs ls hP hS hl)
theorem z_lcmp (hC : e_C X cc own nl rt d nW) {x y : Int64} (hd : decode cc pc = .ok (.lcmp, 1)) (k : Z X Q (pc + 1) lv (.int (lg_cmp x y) :: st) I L) : Z X Q pc lv (.long y :: .long x :: st) I L := by
  obtain ⟨p, l, e, R, s, m, args, below, meth, c, nL, ad, base, D, cA, k1, k2, n⟩ := X
  obtain ⟨hx, hb, hml, hown, hts, hK, hbase, hR, hk, hinj, had, hlk, hRO, rfl, rfl, hrt⟩ := hC
  intro H locs ls hP hS hl
  exact W.lcmp hx hb hd (k H locs ls hP hS hl)
theorem z_dup (hC : e_C X cc own nl rt d nW) {va : Value} (hva : va.category = 1) (hd : decode cc pc = .ok (.dup, 1)) (k : Z X Q (pc + 1) lv (va :: va :: st) I L) : Z X Q pc lv (va :: st) I L := by
  obtain ⟨p, l, e, R, s, m, args, below, meth, c, nL, ad, base, D, cA, k1, k2, n⟩ := X
  obtain ⟨hx, hb, hml, hown, hts, hK, hbase, hR, hk, hinj, had, hlk, hRO, rfl, rfl, hrt⟩ := hC
  intro H locs ls hP hS hl
  exact lv_dup hx hb hd (by rw [cv_cat]; exact hva) (k H locs ls hP hS hl)
theorem z_pop (hC : e_C X cc own nl rt d nW) {va : Value} (hva : va.category = 1) (hd : decode cc pc = .ok (.pop, 1)) (k : Z X Q (pc + 1) lv (st) I L) : Z X Q pc lv (va :: st) I L := by
  obtain ⟨p, l, e, R, s, m, args, below, meth, c, nL, ad, base, D, cA, k1, k2, n⟩ := X
  obtain ⟨hx, hb, hml, hown, hts, hK, hbase, hR, hk, hinj, had, hlk, hRO, rfl, rfl, hrt⟩ := hC
  intro H locs ls hP hS hl
  exact lv_pop hx hb hd (by rw [cv_cat]; exact hva) (k H locs ls hP hS hl)
theorem z_dup2 (hC : e_C X cc own nl rt d nW) {va vb : Value} (hva : va.category = 1) (hvb : vb.category = 1) (hd : decode cc pc = .ok (.dup2, 1)) (k : Z X Q (pc + 1) lv (va :: vb :: va :: vb :: st) I L) : Z X Q pc lv (va :: vb :: st) I L := by
  obtain ⟨p, l, e, R, s, m, args, below, meth, c, nL, ad, base, D, cA, k1, k2, n⟩ := X
  obtain ⟨hx, hb, hml, hown, hts, hK, hbase, hR, hk, hinj, had, hlk, hRO, rfl, rfl, hrt⟩ := hC
  intro H locs ls hP hS hl
  exact lv_dup2_11 hx hb hd (by rw [cv_cat]; exact hva) (by rw [cv_cat]; exact hvb) (k H locs ls hP hS hl)
theorem z_iload (hC : e_C X cc own nl rt d nW) {i : Nat} {x : Int32} (hd : decode cc pc = .ok (.iload i, 2)) (j : Nat) (hl0 : lv[j]? = some (i, .int x)) (k : Z X Q (pc + 2) lv (.int x :: st) I L) : Z X Q pc lv st I L := by
  obtain ⟨p, l, e, R, s, m, args, below, meth, c, nL, ad, base, D, cA, k1, k2, n⟩ := X
  obtain ⟨hx, hb, hml, hown, hts, hK, hbase, hR, hk, hinj, had, hlk, hRO, rfl, rfl, hrt⟩ := hC
  intro H locs ls hP hS hl
  exact lv_iload hx hb hd (cv_at hl j hl0) (k H locs ls hP hS hl)
theorem z_iload_n (hC : e_C X cc own nl rt d nW) {f : Fin 4} {i : Nat} {x : Int32} (hd : decode cc pc = .ok (.iload_n f, 1)) (hi : (f : Nat) = i) (j : Nat) (hl0 : lv[j]? = some (i, .int x)) (k : Z X Q (pc + 1) lv (.int x :: st) I L) : Z X Q pc lv st I L := by
  obtain ⟨p, l, e, R, s, m, args, below, meth, c, nL, ad, base, D, cA, k1, k2, n⟩ := X
  obtain ⟨hx, hb, hml, hown, hts, hK, hbase, hR, hk, hinj, had, hlk, hRO, rfl, rfl, hrt⟩ := hC
  intro H locs ls hP hS hl
  exact lv_iload_n hx hb hd hi (cv_at hl j hl0) (k H locs ls hP hS hl)
theorem z_lload (hC : e_C X cc own nl rt d nW) {i : Nat} {x : Int64} (hd : decode cc pc = .ok (.lload i, 2)) (j : Nat) (hl0 : lv[j]? = some (i, .long x)) (k : Z X Q (pc + 2) lv (.long x :: st) I L) : Z X Q pc lv st I L := by
  obtain ⟨p, l, e, R, s, m, args, below, meth, c, nL, ad, base, D, cA, k1, k2, n⟩ := X
  obtain ⟨hx, hb, hml, hown, hts, hK, hbase, hR, hk, hinj, had, hlk, hRO, rfl, rfl, hrt⟩ := hC
  intro H locs ls hP hS hl
  exact lv_lload hx hb hd (cv_at hl j hl0) (k H locs ls hP hS hl)
theorem z_lload_n (hC : e_C X cc own nl rt d nW) {f : Fin 4} {i : Nat} {x : Int64} (hd : decode cc pc = .ok (.lload_n f, 1)) (hi : (f : Nat) = i) (j : Nat) (hl0 : lv[j]? = some (i, .long x)) (k : Z X Q (pc + 1) lv (.long x :: st) I L) : Z X Q pc lv st I L := by
  obtain ⟨p, l, e, R, s, m, args, below, meth, c, nL, ad, base, D, cA, k1, k2, n⟩ := X
  obtain ⟨hx, hb, hml, hown, hts, hK, hbase, hR, hk, hinj, had, hlk, hRO, rfl, rfl, hrt⟩ := hC
  intro H locs ls hP hS hl
  exact lv_lload_n hx hb hd hi (cv_at hl j hl0) (k H locs ls hP hS hl)
theorem z_aload (hC : e_C X cc own nl rt d nW) {i : Nat} {x : Nat} (hd : decode cc pc = .ok (.aload i, 2)) (j : Nat) (hl0 : lv[j]? = some (i, .ref x)) (k : Z X Q (pc + 2) lv (.ref x :: st) I L) : Z X Q pc lv st I L := by
  obtain ⟨p, l, e, R, s, m, args, below, meth, c, nL, ad, base, D, cA, k1, k2, n⟩ := X
  obtain ⟨hx, hb, hml, hown, hts, hK, hbase, hR, hk, hinj, had, hlk, hRO, rfl, rfl, hrt⟩ := hC
  intro H locs ls hP hS hl
  exact lv_aload hx hb hd (cv_at hl j hl0) (k H locs ls hP hS hl)
theorem z_aload_n (hC : e_C X cc own nl rt d nW) {f : Fin 4} {i : Nat} {x : Nat} (hd : decode cc pc = .ok (.aload_n f, 1)) (hi : (f : Nat) = i) (j : Nat) (hl0 : lv[j]? = some (i, .ref x)) (k : Z X Q (pc + 1) lv (.ref x :: st) I L) : Z X Q pc lv st I L := by
  obtain ⟨p, l, e, R, s, m, args, below, meth, c, nL, ad, base, D, cA, k1, k2, n⟩ := X
  obtain ⟨hx, hb, hml, hown, hts, hK, hbase, hR, hk, hinj, had, hlk, hRO, rfl, rfl, hrt⟩ := hC
  intro H locs ls hP hS hl
  exact lv_aload_n hx hb hd hi (cv_at hl j hl0) (k H locs ls hP hS hl)
theorem z_istore (hC : e_C X cc own nl rt d nW) {i : Nat} {x : Int32} {lv' : List (Nat × Value)} (hd : decode cc pc = .ok (.istore i, 2)) (hn : i < nl) (hl0 : (i, .int x) :: lv.filter (fun q => !(q.1 == i) && !(q.1 + 1 == i && q.2.category == 2)) = lv') (k : Z X Q (pc + 2) lv' st I L) : Z X Q pc lv (.int x :: st) I L := by
  obtain ⟨p, l, e, R, s, m, args, below, meth, c, nL, ad, base, D, cA, k1, k2, n⟩ := X
  obtain ⟨hx, hb, hml, hown, hts, hK, hbase, hR, hk, hinj, had, hlk, hRO, rfl, rfl, hrt⟩ := hC
  intro H locs ls hP hS hl
  refine lv_istore (lv' := lv'.map (fun q => (q.1, cv ad q.2))) hx hb hd hl hn ?_ (fun ls' hl' => k H locs ls' hP hS hl')
  rw [← hl0, List.map_cons, ← cv_filt]; rfl
theorem z_istore_n (hC : e_C X cc own nl rt d nW) {f : Fin 4} {i : Nat} {x : Int32} {lv' : List (Nat × Value)} (hd : decode cc pc = .ok (.istore_n f, 1)) (hi : (f : Nat) = i) (hn : i < nl) (hl0 : (i, .int x) :: lv.filter (fun q => !(q.1 == i) && !(q.1 + 1 == i && q.2.category == 2)) = lv') (k : Z X Q (pc + 1) lv' st I L) : Z X Q pc lv (.int x :: st) I L := by
  obtain ⟨p, l, e, R, s, m, args, below, meth, c, nL, ad, base, D, cA, k1, k2, n⟩ := X
  obtain ⟨hx, hb, hml, hown, hts, hK, hbase, hR, hk, hinj, had, hlk, hRO, rfl, rfl, hrt⟩ := hC
  intro H locs ls hP hS hl
  refine lv_istore_n (lv' := lv'.map (fun q => (q.1, cv ad q.2))) hx hb hd hi hl hn ?_ (fun ls' hl' => k H locs ls' hP hS hl')
  rw [← hl0, List.map_cons, ← cv_filt]; rfl
theorem z_lstore (hC : e_C X cc own nl rt d nW) {i : Nat} {x : Int64} {lv' : List (Nat × Value)} (hd : decode cc pc = .ok (.lstore i, 2)) (hn : i + 1 < nl) (hl0 : (i, .long x) :: lv.filter (fun q => !(q.1 == i) && (!(q.1 == i + 1) && !(q.1 + 1 == i && q.2.category == 2))) = lv') (k : Z X Q (pc + 2) lv' st I L) : Z X Q pc lv (.long x :: st) I L := by
  obtain ⟨p, l, e, R, s, m, args, below, meth, c, nL, ad, base, D, cA, k1, k2, n⟩ := X
  obtain ⟨hx, hb, hml, hown, hts, hK, hbase, hR, hk, hinj, had, hlk, hRO, rfl, rfl, hrt⟩ := hC
  intro H locs ls hP hS hl
  refine lv_lstore (lv' := lv'.map (fun q => (q.1, cv ad q.2))) hx hb hd hl hn ?_ (fun ls' hl' => k H locs ls' hP hS hl')
  rw [← hl0, List.map_cons, ← cv_filt2]; rfl
theorem z_lstore_n (hC : e_C X cc own nl rt d nW) {f : Fin 4} {i : Nat} {x : Int64} {lv' : List (Nat × Value)} (hd : decode cc pc = .ok (.lstore_n f, 1)) (hi : (f : Nat) = i) (hn : i + 1 < nl) (hl0 : (i, .long x) :: lv.filter (fun q => !(q.1 == i) && (!(q.1 == i + 1) && !(q.1 + 1 == i && q.2.category == 2))) = lv') (k : Z X Q (pc + 1) lv' st I L) : Z X Q pc lv (.long x :: st) I L := by
  obtain ⟨p, l, e, R, s, m, args, below, meth, c, nL, ad, base, D, cA, k1, k2, n⟩ := X
  obtain ⟨hx, hb, hml, hown, hts, hK, hbase, hR, hk, hinj, had, hlk, hRO, rfl, rfl, hrt⟩ := hC
  intro H locs ls hP hS hl
  refine lv_lstore_n (lv' := lv'.map (fun q => (q.1, cv ad q.2))) hx hb hd hi hl hn ?_ (fun ls' hl' => k H locs ls' hP hS hl')
  rw [← hl0, List.map_cons, ← cv_filt2]; rfl
theorem z_astore (hC : e_C X cc own nl rt d nW) {i : Nat} {x : Nat} {lv' : List (Nat × Value)} (hd : decode cc pc = .ok (.astore i, 2)) (hn : i < nl) (hl0 : (i, .ref x) :: lv.filter (fun q => !(q.1 == i) && !(q.1 + 1 == i && q.2.category == 2)) = lv') (k : Z X Q (pc + 2) lv' st I L) : Z X Q pc lv (.ref x :: st) I L := by
  obtain ⟨p, l, e, R, s, m, args, below, meth, c, nL, ad, base, D, cA, k1, k2, n⟩ := X
  obtain ⟨hx, hb, hml, hown, hts, hK, hbase, hR, hk, hinj, had, hlk, hRO, rfl, rfl, hrt⟩ := hC
  intro H locs ls hP hS hl
  refine lv_astore (lv' := lv'.map (fun q => (q.1, cv ad q.2))) hx hb hd hl hn ?_ (fun ls' hl' => k H locs ls' hP hS hl')
  rw [← hl0, List.map_cons, ← cv_filt]; rfl
theorem z_astore_n (hC : e_C X cc own nl rt d nW) {f : Fin 4} {i : Nat} {x : Nat} {lv' : List (Nat × Value)} (hd : decode cc pc = .ok (.astore_n f, 1)) (hi : (f : Nat) = i) (hn : i < nl) (hl0 : (i, .ref x) :: lv.filter (fun q => !(q.1 == i) && !(q.1 + 1 == i && q.2.category == 2)) = lv') (k : Z X Q (pc + 1) lv' st I L) : Z X Q pc lv (.ref x :: st) I L := by
  obtain ⟨p, l, e, R, s, m, args, below, meth, c, nL, ad, base, D, cA, k1, k2, n⟩ := X
  obtain ⟨hx, hb, hml, hown, hts, hK, hbase, hR, hk, hinj, had, hlk, hRO, rfl, rfl, hrt⟩ := hC
  intro H locs ls hP hS hl
  refine lv_astore_n (lv' := lv'.map (fun q => (q.1, cv ad q.2))) hx hb hd hi hl hn ?_ (fun ls' hl' => k H locs ls' hP hS hl')
  rw [← hl0, List.map_cons, ← cv_filt]; rfl
theorem z_iinc (hC : e_C X cc own nl rt d nW) {i : Nat} {n : Int} {x v : Int32} {lv' : List (Nat × Value)} (hd : decode cc pc = .ok (.iinc i n, 3)) (j : Nat) (hj : lv[j]? = some (i, .int x)) (hv : x + Int32.ofInt n = v) (hn : i < nl) (hl0 : (i, .int v) :: lv.filter (fun q => !(q.1 == i) && !(q.1 + 1 == i && q.2.category == 2)) = lv') (k : Z X Q (pc + 3) lv' st I L) : Z X Q pc lv st I L := by
  obtain ⟨p, l, e, R, s, m, args, below, meth, c, nL, ad, base, D, cA, k1, k2, n⟩ := X
  obtain ⟨hx, hb, hml, hown, hts, hK, hbase, hR, hk, hinj, had, hlk, hRO, rfl, rfl, hrt⟩ := hC
  intro H locs ls hP hS hl
  refine lv_iinc (lv' := lv'.map (fun q => (q.1, cv ad q.2))) (k := j) (x := x) hx hb hd hl (by rw [List.getElem?_map, hj]; rfl) hv hn ?_ (fun ls' hl' => k H locs ls' hP hS hl')
  rw [← hl0, List.map_cons, ← cv_filt]; rfl
theorem z_icmp_eq (hC : e_C X cc own nl rt d nW) {x y : Int32} {off : Int} {tgt : Nat} (hd : decode cc pc = .ok (.if_icmp .eq off, 3)) (ht : (pc : Int) + off = (tgt : Int)) (kt : x = y → Z X Q tgt lv st I L) (kf : ¬ (x = y) → Z X Q (pc + 3) lv st I L) : Z X Q pc lv (.int y :: .int x :: st) I L := by
  obtain ⟨p, l, e, R, s, m, args, below, meth, c, nL, ad, base, D, cA, k1, k2, n⟩ := X
  obtain ⟨hx, hb, hml, hown, hts, hK, hbase, hR, hk, hinj, had, hlk, hRO, rfl, rfl, hrt⟩ := hC
  intro H locs ls hP hS hl
  exact lv_icmp_eq hx hb hd ht (fun h => kt h H locs ls hP hS hl) (fun h => kf h H locs ls hP hS hl)
theorem z_if_eq (hC : e_C X cc own nl rt d nW) {x : Int32} {off : Int} {tgt : Nat} (hd : decode cc pc = .ok (.ifCond .eq off, 3)) (ht : (pc : Int) + off = (tgt : Int)) (kt : x = 0 → Z X Q tgt lv st I L) (kf : ¬ (x = 0) → Z X Q (pc + 3) lv st I L) : Z X Q pc lv (.int x :: st) I L := by
  obtain ⟨p, l, e, R, s, m, args, below, meth, c, nL, ad, base, D, cA, k1, k2, n⟩ := X
  obtain ⟨hx, hb, hml, hown, hts, hK, hbase, hR, hk, hinj, had, hlk, hRO, rfl, rfl, hrt⟩ := hC
  intro H locs ls hP hS hl
  exact lv_if_eq hx hb hd ht (fun h => kt h H locs ls hP hS hl) (fun h => kf h H locs ls hP hS hl)
theorem z_icmp_ne (hC : e_C X cc own nl rt d nW) {x y : Int32} {off : Int} {tgt : Nat} (hd : decode cc pc = .ok (.if_icmp .ne off, 3)) (ht : (pc : Int) + off = (tgt : Int)) (kt : x ≠ y → Z X Q tgt lv st I L) (kf : ¬ (x ≠ y) → Z X Q (pc + 3) lv st I L) : Z X Q pc lv (.int y :: .int x :: st) I L := by
  obtain ⟨p, l, e, R, s, m, args, below, meth, c, nL, ad, base, D, cA, k1, k2, n⟩ := X
  obtain ⟨hx, hb, hml, hown, hts, hK, hbase, hR, hk, hinj, had, hlk, hRO, rfl, rfl, hrt⟩ := hC
  intro H locs ls hP hS hl
  exact lv_icmp_ne hx hb hd ht (fun h => kt h H locs ls hP hS hl) (fun h => kf (fun h2 => h2 h) H locs ls hP hS hl)
theorem z_if_ne (hC : e_C X cc own nl rt d nW) {x : Int32} {off : Int} {tgt : Nat} (hd : decode cc pc = .ok (.ifCond .ne off, 3)) (ht : (pc : Int) + off = (tgt : Int)) (kt : x ≠ 0 → Z X Q tgt lv st I L) (kf : ¬ (x ≠ 0) → Z X Q (pc + 3) lv st I L) : Z X Q pc lv (.int x :: st) I L := by
  obtain ⟨p, l, e, R, s, m, args, below, meth, c, nL, ad, base, D, cA, k1, k2, n⟩ := X
  obtain ⟨hx, hb, hml, hown, hts, hK, hbase, hR, hk, hinj, had, hlk, hRO, rfl, rfl, hrt⟩ := hC
  intro H locs ls hP hS hl
  exact lv_if_ne hx hb hd ht (fun h => kt h H locs ls hP hS hl) (fun h => kf (fun h2 => h2 h) H locs ls hP hS hl)
theorem z_icmp_lt (hC : e_C X cc own nl rt d nW) {x y : Int32} {off : Int} {tgt : Nat} (hd : decode cc pc = .ok (.if_icmp .lt off, 3)) (ht : (pc : Int) + off = (tgt : Int)) (kt : x < y → Z X Q tgt lv st I L) (kf : ¬ (x < y) → Z X Q (pc + 3) lv st I L) : Z X Q pc lv (.int y :: .int x :: st) I L := by
  obtain ⟨p, l, e, R, s, m, args, below, meth, c, nL, ad, base, D, cA, k1, k2, n⟩ := X
  obtain ⟨hx, hb, hml, hown, hts, hK, hbase, hR, hk, hinj, had, hlk, hRO, rfl, rfl, hrt⟩ := hC
  intro H locs ls hP hS hl
  exact lv_icmp_lt hx hb hd ht (fun h => kt h H locs ls hP hS hl) (fun h => kf h H locs ls hP hS hl)
theorem z_if_lt (hC : e_C X cc own nl rt d nW) {x : Int32} {off : Int} {tgt : Nat} (hd : decode cc pc = .ok (.ifCond .lt off, 3)) (ht : (pc : Int) + off = (tgt : Int)) (kt : x < 0 → Z X Q tgt lv st I L) (kf : ¬ (x < 0) → Z X Q (pc + 3) lv st I L) : Z X Q pc lv (.int x :: st) I L := by
  obtain ⟨p, l, e, R, s, m, args, below, meth, c, nL, ad, base, D, cA, k1, k2, n⟩ := X
  obtain ⟨hx, hb, hml, hown, hts, hK, hbase, hR, hk, hinj, had, hlk, hRO, rfl, rfl, hrt⟩ := hC
  intro H locs ls hP hS hl
  exact lv_if_lt hx hb hd ht (fun h => kt h H locs ls hP hS hl) (fun h => kf h H locs ls hP hS hl)
theorem z_icmp_ge (hC : e_C X cc own nl rt d nW) {x y : Int32} {off : Int} {tgt : Nat} (hd : decode cc pc = .ok (.if_icmp .ge off, 3)) (ht : (pc : Int) + off = (tgt : Int)) (kt : x ≥ y → Z X Q tgt lv st I L) (kf : ¬ (x ≥ y) → Z X Q (pc + 3) lv st I L) : Z X Q pc lv (.int y :: .int x :: st) I L := by
  obtain ⟨p, l, e, R, s, m, args, below, meth, c, nL, ad, base, D, cA, k1, k2, n⟩ := X
  obtain ⟨hx, hb, hml, hown, hts, hK, hbase, hR, hk, hinj, had, hlk, hRO, rfl, rfl, hrt⟩ := hC
  intro H locs ls hP hS hl
  exact lv_icmp_ge hx hb hd ht (fun h => kt h H locs ls hP hS hl) (fun h => kf h H locs ls hP hS hl)
theorem z_if_ge (hC : e_C X cc own nl rt d nW) {x : Int32} {off : Int} {tgt : Nat} (hd : decode cc pc = .ok (.ifCond .ge off, 3)) (ht : (pc : Int) + off = (tgt : Int)) (kt : x ≥ 0 → Z X Q tgt lv st I L) (kf : ¬ (x ≥ 0) → Z X Q (pc + 3) lv st I L) : Z X Q pc lv (.int x :: st) I L := by
  obtain ⟨p, l, e, R, s, m, args, below, meth, c, nL, ad, base, D, cA, k1, k2, n⟩ := X
  obtain ⟨hx, hb, hml, hown, hts, hK, hbase, hR, hk, hinj, had, hlk, hRO, rfl, rfl, hrt⟩ := hC
  intro H locs ls hP hS hl
  exact lv_if_ge hx hb hd ht (fun h => kt h H locs ls hP hS hl) (fun h => kf h H locs ls hP hS hl)
theorem z_icmp_gt (hC : e_C X cc own nl rt d nW) {x y : Int32} {off : Int} {tgt : Nat} (hd : decode cc pc = .ok (.if_icmp .gt off, 3)) (ht : (pc : Int) + off = (tgt : Int)) (kt : x > y → Z X Q tgt lv st I L) (kf : ¬ (x > y) → Z X Q (pc + 3) lv st I L) : Z X Q pc lv (.int y :: .int x :: st) I L := by
  obtain ⟨p, l, e, R, s, m, args, below, meth, c, nL, ad, base, D, cA, k1, k2, n⟩ := X
  obtain ⟨hx, hb, hml, hown, hts, hK, hbase, hR, hk, hinj, had, hlk, hRO, rfl, rfl, hrt⟩ := hC
  intro H locs ls hP hS hl
  exact lv_icmp_gt hx hb hd ht (fun h => kt h H locs ls hP hS hl) (fun h => kf h H locs ls hP hS hl)
theorem z_if_gt (hC : e_C X cc own nl rt d nW) {x : Int32} {off : Int} {tgt : Nat} (hd : decode cc pc = .ok (.ifCond .gt off, 3)) (ht : (pc : Int) + off = (tgt : Int)) (kt : x > 0 → Z X Q tgt lv st I L) (kf : ¬ (x > 0) → Z X Q (pc + 3) lv st I L) : Z X Q pc lv (.int x :: st) I L := by
  obtain ⟨p, l, e, R, s, m, args, below, meth, c, nL, ad, base, D, cA, k1, k2, n⟩ := X
  obtain ⟨hx, hb, hml, hown, hts, hK, hbase, hR, hk, hinj, had, hlk, hRO, rfl, rfl, hrt⟩ := hC
  intro H locs ls hP hS hl
  exact lv_if_gt hx hb hd ht (fun h => kt h H locs ls hP hS hl) (fun h => kf h H locs ls hP hS hl)
theorem z_icmp_le (hC : e_C X cc own nl rt d nW) {x y : Int32} {off : Int} {tgt : Nat} (hd : decode cc pc = .ok (.if_icmp .le off, 3)) (ht : (pc : Int) + off = (tgt : Int)) (kt : x ≤ y → Z X Q tgt lv st I L) (kf : ¬ (x ≤ y) → Z X Q (pc + 3) lv st I L) : Z X Q pc lv (.int y :: .int x :: st) I L := by
  obtain ⟨p, l, e, R, s, m, args, below, meth, c, nL, ad, base, D, cA, k1, k2, n⟩ := X
  obtain ⟨hx, hb, hml, hown, hts, hK, hbase, hR, hk, hinj, had, hlk, hRO, rfl, rfl, hrt⟩ := hC
  intro H locs ls hP hS hl
  exact lv_icmp_le hx hb hd ht (fun h => kt h H locs ls hP hS hl) (fun h => kf h H locs ls hP hS hl)
theorem z_if_le (hC : e_C X cc own nl rt d nW) {x : Int32} {off : Int} {tgt : Nat} (hd : decode cc pc = .ok (.ifCond .le off, 3)) (ht : (pc : Int) + off = (tgt : Int)) (kt : x ≤ 0 → Z X Q tgt lv st I L) (kf : ¬ (x ≤ 0) → Z X Q (pc + 3) lv st I L) : Z X Q pc lv (.int x :: st) I L := by
  obtain ⟨p, l, e, R, s, m, args, below, meth, c, nL, ad, base, D, cA, k1, k2, n⟩ := X
  obtain ⟨hx, hb, hml, hown, hts, hK, hbase, hR, hk, hinj, had, hlk, hRO, rfl, rfl, hrt⟩ := hC
  intro H locs ls hP hS hl
  exact lv_if_le hx hb hd ht (fun h => kt h H locs ls hP hS hl) (fun h => kf h H locs ls hP hS hl)
theorem z_goto (hC : e_C X cc own nl rt d nW) {off : Int} {tgt : Nat} (hd : decode cc pc = .ok (.goto off, 3)) (ht : (pc : Int) + off = (tgt : Int)) (k : Z X Q tgt lv st I L) : Z X Q pc lv st I L := by
  obtain ⟨p, l, e, R, s, m, args, below, meth, c, nL, ad, base, D, cA, k1, k2, n⟩ := X
  obtain ⟨hx, hb, hml, hown, hts, hK, hbase, hR, hk, hinj, had, hlk, hRO, rfl, rfl, hrt⟩ := hC
  intro H locs ls hP hS hl
  exact lv_goto hx hb hd ht (k H locs ls hP hS hl)
theorem z_ifnull (hC : e_C X cc own nl rt d nW) {x : Nat} {off : Int} (hd : decode cc pc = .ok (.ifnull off, 3)) (k : Z X Q (pc + 3) lv st I L) : Z X Q pc lv (.ref x :: st) I L := by
  obtain ⟨p, l, e, R, s, m, args, below, meth, c, nL, ad, base, D, cA, k1, k2, n⟩ := X
  obtain ⟨hx, hb, hml, hown, hts, hK, hbase, hR, hk, hinj, had, hlk, hRO, rfl, rfl, hrt⟩ := hC
  intro H locs ls hP hS hl
  exact lv_ifnull hx hb hd (k H locs ls hP hS hl)
theorem z_ldc (hC : e_C X cc own nl rt d nW) {index : Nat} {v : Int32} (hw : Cond.constant own index v ∈ e_tbl) (hd : decode cc pc = .ok (.ldc index, 2)) (k : Z X Q (pc + 2) lv (.int v :: st) I L) : Z X Q pc lv st I L := by
  obtain ⟨p, l, e, R, s, m, args, below, meth, c, nL, ad, base, D, cA, k1, k2, n⟩ := X
  obtain ⟨hx, hb, hml, hown, hts, hK, hbase, hR, hk, hinj, had, hlk, hRO, rfl, rfl, hrt⟩ := hC
  intro H locs ls hP hS hl
  exact lv_ldc hx hb hown (hts _ hw) hd (k H locs ls hP hS hl)
theorem z_ldcw (hC : e_C X cc own nl rt d nW) {index : Nat} {v : Int32} (hw : Cond.constant own index v ∈ e_tbl) (hd : decode cc pc = .ok (.ldc_w index, 3)) (k : Z X Q (pc + 3) lv (.int v :: st) I L) : Z X Q pc lv st I L := by
  obtain ⟨p, l, e, R, s, m, args, below, meth, c, nL, ad, base, D, cA, k1, k2, n⟩ := X
  obtain ⟨hx, hb, hml, hown, hts, hK, hbase, hR, hk, hinj, had, hlk, hRO, rfl, rfl, hrt⟩ := hC
  intro H locs ls hP hS hl
  exact lv_ldcw hx hb hown (hts _ hw) hd (k H locs ls hP hS hl)
theorem z_ldc2 (hC : e_C X cc own nl rt d nW) {index : Nat} {v : Int64} (hw : Cond.constantLong own index v ∈ e_tbl) (hd : decode cc pc = .ok (.ldc2_w index, 3)) (k : Z X Q (pc + 3) lv (.long v :: st) I L) : Z X Q pc lv st I L := by
  obtain ⟨p, l, e, R, s, m, args, below, meth, c, nL, ad, base, D, cA, k1, k2, n⟩ := X
  obtain ⟨hx, hb, hml, hown, hts, hK, hbase, hR, hk, hinj, had, hlk, hRO, rfl, rfl, hrt⟩ := hC
  intro H locs ls hP hS hl
  exact lv_ldc2 hx hb hown (hts _ hw) hd (k H locs ls hP hS hl)
theorem z_mmax (hC : e_C X cc own nl rt d nW) {index : Nat} {x y : Int32} (h1 : Cond.methodLink own index Lib.Math.max.name ∈ e_tbl) (h2 : Cond.static Lib.Math.max.name ∈ e_tbl) (h3 : Cond.initialized "java/lang/Math" ∈ e_tbl) (h4 : Cond.code Lib.Math.max.name Lib.Math.max.code 2 (some .int) ∈ e_tbl) (hroom : (st.map fun v => v.category).sum ≤ 8) (hd : decode cc pc = .ok (.invokestatic index, 3)) (k : Z X Q (pc + 3) lv (.int (if x < y then y else x) :: st) I L) : Z X Q pc lv (.int y :: .int x :: st) I L := by
  obtain ⟨p, l, e, R, s, m, args, below, meth, c, nL, ad, base, D, cA, k1, k2, n⟩ := X
  obtain ⟨hx, hb, hml, hown, hts, hK, hbase, hR, hk, hinj, had, hlk, hRO, rfl, rfl, hrt⟩ := hC
  intro H locs ls hP hS hl
  exact va_mmax hx hb (hml.trans hl.1.symm) hown (hts _ h1) (hts _ h2) (hts _ h3) (hts _ h4) (by omega) (by rw [cv_cats]; omega) hk.1 hk.2 hd (k H locs ls hP hS hl)
theorem z_mmin (hC : e_C X cc own nl rt d nW) {index : Nat} {x y : Int32} (h1 : Cond.methodLink own index Lib.Math.min.name ∈ e_tbl) (h2 : Cond.static Lib.Math.min.name ∈ e_tbl) (h3 : Cond.initialized "java/lang/Math" ∈ e_tbl) (h4 : Cond.code Lib.Math.min.name Lib.Math.min.code 2 (some .int) ∈ e_tbl) (hroom : (st.map fun v => v.category).sum ≤ 8) (hd : decode cc pc = .ok (.invokestatic index, 3)) (k : Z X Q (pc + 3) lv (.int (if y < x then y else x) :: st) I L) : Z X Q pc lv (.int y :: .int x :: st) I L := by
  obtain ⟨p, l, e, R, s, m, args, below, meth, c, nL, ad, base, D, cA, k1, k2, n⟩ := X
  obtain ⟨hx, hb, hml, hown, hts, hK, hbase, hR, hk, hinj, had, hlk, hRO, rfl, rfl, hrt⟩ := hC
  intro H locs ls hP hS hl
  exact va_mmin hx hb (hml.trans hl.1.symm) hown (hts _ h1) (hts _ h2) (hts _ h3) (hts _ h4) (by omega) (by rw [cv_cats]; omega) hk.1 hk.2 hd (k H locs ls hP hS hl)
theorem z_mmaxl (hC : e_C X cc own nl rt d nW) {index : Nat} {x y : Int64} (h1 : Cond.methodLink own index Lib.MathLoose.max_long.x ∈ e_tbl) (h2 : Cond.static Lib.MathLoose.max_long.x ∈ e_tbl) (h3 : Cond.initialized "java/lang/Math" ∈ e_tbl) (h4 : Cond.code Lib.MathLoose.max_long.x Lib.MathLoose.max_long.code 4 (some .long) ∈ e_tbl) (hroom : (st.map fun v => v.category).sum ≤ 8) (hd : decode cc pc = .ok (.invokestatic index, 3)) (k : Z X Q (pc + 3) lv (.long (if y < x then x else y) :: st) I L) : Z X Q pc lv (.long y :: .long x :: st) I L := by
  obtain ⟨p, l, e, R, s, m, args, below, meth, c, nL, ad, base, D, cA, k1, k2, n⟩ := X
  obtain ⟨hx, hb, hml, hown, hts, hK, hbase, hR, hk, hinj, had, hlk, hRO, rfl, rfl, hrt⟩ := hC
  intro H locs ls hP hS hl
  exact va_mmax_long hx hb (hml.trans hl.1.symm) hown (hts _ h1) (hts _ h2) (hts _ h3) (hts _ h4) (by omega) (by rw [cv_cats]; omega) hk.1 hk.2 hd (k H locs ls hP hS hl)
theorem z_tsw_in (hC : e_C X cc own nl rt d nW) {dflt lo hi : Int} {offs : Array Int} {len : Nat} {x : Int32} {off : Int} {tgt : Nat} (hd : decode cc pc = .ok (.tableswitch dflt lo hi offs, len)) (h1 : ¬ x.toInt < lo) (h2 : ¬ hi < x.toInt) (ho : offs[(x.toInt - lo).toNat]? = some off) (ht : (pc : Int) + off = (tgt : Int)) (k : Z X Q tgt lv st I L) : Z X Q pc lv (.int x :: st) I L := by
  obtain ⟨p, l, e, R, s, m, args, below, meth, c, nL, ad, base, D, cA, k1, k2, n⟩ := X
  obtain ⟨hx, hb, hml, hown, hts, hK, hbase, hR, hk, hinj, had, hlk, hRO, rfl, rfl, hrt⟩ := hC
  intro H locs ls hP hS hl
  exact lv_tableIn hx hb hd h1 h2 ho ht (k H locs ls hP hS hl)
theorem z_tsw_out (hC : e_C X cc own nl rt d nW) {dflt lo hi : Int} {offs : Array Int} {len : Nat} {x : Int32} {tgt : Nat} (hd : decode cc pc = .ok (.tableswitch dflt lo hi offs, len)) (h : x.toInt < lo ∨ hi < x.toInt) (ht : (pc : Int) + dflt = (tgt : Int)) (k : Z X Q tgt lv st I L) : Z X Q pc lv (.int x :: st) I L := by
  obtain ⟨p, l, e, R, s, m, args, below, meth, c, nL, ad, base, D, cA, k1, k2, n⟩ := X
  obtain ⟨hx, hb, hml, hown, hts, hK, hbase, hR, hk, hinj, had, hlk, hRO, rfl, rfl, hrt⟩ := hC
  intro H locs ls hP hS hl
  exact lv_tableOut hx hb hd h ht (k H locs ls hP hS hl)
theorem z_lsw (hC : e_C X cc own nl rt d nW) {dflt : Int} {ps : Array (Int × Int)} {len : Nat} {x : Int32} {off : Int} {tgt : Nat} (hd : decode cc pc = .ok (.lookupswitch dflt ps, len)) (hp : (ps.toList.zip (ps.toList.drop 1)).all (fun (a, next) => a.1 < next.1) = true) (ho : Op.lookupswitch.offset ps.toList dflt x.toInt = off) (ht : (pc : Int) + off = (tgt : Int)) (k : Z X Q tgt lv st I L) : Z X Q pc lv (.int x :: st) I L := by
  obtain ⟨p, l, e, R, s, m, args, below, meth, c, nL, ad, base, D, cA, k1, k2, n⟩ := X
  obtain ⟨hx, hb, hml, hown, hts, hK, hbase, hR, hk, hinj, had, hlk, hRO, rfl, rfl, hrt⟩ := hC
  intro H locs ls hP hS hl
  exact lv_lookup hx hb hd hp ho ht (k H locs ls hP hS hl)
theorem z_getI (hC : e_C X cc own nl rt d nW) {index ci i a : Nat} (hf : e_fk own index ci i "I") (ha : e_at nW a ci) (hd : decode cc pc = .ok (.getfield index, 3)) (k : Z X Q (pc + 3) lv (.int (I a i) :: st) I L) : Z X Q pc lv (.ref a :: st) I L := by
  obtain ⟨p, l, e, R, s, m, args, below, meth, c, nL, ad, base, D, cA, k1, k2, n⟩ := X
  obtain ⟨hx, hb, hml, hown, hts, hK, hbase, hR, hk, hinj, had, hlk, hRO, rfl, rfl, hrt⟩ := hC
  intro H locs ls hP hS hl
  obtain ⟨hf1, hf2, hf3, hf4⟩ := hf
  have he := e_ws_obj (ad := ad) (cA := cA) (I := I) (L := L) ha hf1
  exact va_get hx hb hts (e_hin hf1) hown hK hP a he (e_cl_at hf1) i hf2 (hts _ hf4) (fun _ h => h) (e_fs_at hf2 (by simp [e_fld, e_kd, hf3, cv])) hd (k H locs ls hP hS hl)
theorem z_getZ (hC : e_C X cc own nl rt d nW) {index ci i a : Nat} (hf : e_fk own index ci i "Z") (ha : e_at nW a ci) (hd : decode cc pc = .ok (.getfield index, 3)) (k : Z X Q (pc + 3) lv (.int (I a i) :: st) I L) : Z X Q pc lv (.ref a :: st) I L := by
  obtain ⟨p, l, e, R, s, m, args, below, meth, c, nL, ad, base, D, cA, k1, k2, n⟩ := X
  obtain ⟨hx, hb, hml, hown, hts, hK, hbase, hR, hk, hinj, had, hlk, hRO, rfl, rfl, hrt⟩ := hC
  intro H locs ls hP hS hl
  obtain ⟨hf1, hf2, hf3, hf4⟩ := hf
  have he := e_ws_obj (ad := ad) (cA := cA) (I := I) (L := L) ha hf1
  exact va_get hx hb hts (e_hin hf1) hown hK hP a he (e_cl_at hf1) i hf2 (hts _ hf4) (fun _ h => h) (e_fs_at hf2 (by simp [e_fld, e_kd, hf3, cv])) hd (k H locs ls hP hS hl)
theorem z_getL (hC : e_C X cc own nl rt d nW) {index ci i a : Nat} (hf : e_fk own index ci i "J") (ha : e_at nW a ci) (hd : decode cc pc = .ok (.getfield index, 3)) (k : Z X Q (pc + 3) lv (.long (L a i) :: st) I L) : Z X Q pc lv (.ref a :: st) I L := by
  obtain ⟨p, l, e, R, s, m, args, below, meth, c, nL, ad, base, D, cA, k1, k2, n⟩ := X
  obtain ⟨hx, hb, hml, hown, hts, hK, hbase, hR, hk, hinj, had, hlk, hRO, rfl, rfl, hrt⟩ := hC
  intro H locs ls hP hS hl
  obtain ⟨hf1, hf2, hf3, hf4⟩ := hf
  have he := e_ws_obj (ad := ad) (cA := cA) (I := I) (L := L) ha hf1
  exact va_get hx hb hts (e_hin hf1) hown hK hP a he (e_cl_at hf1) i hf2 (hts _ hf4) (fun _ h => h) (e_fs_at hf2 (by simp [e_fld, e_kd, hf3, cv])) hd (k H locs ls hP hS hl)
theorem z_getR (hC : e_C X cc own nl rt d nW) {index ci i a r : Nat} {desc : String} (hf : e_fk own index ci i desc) (hdc : e_kd desc = 2) (hr : gR a i = some r) (ha : e_at nW a ci) (hd : decode cc pc = .ok (.getfield index, 3)) (k : Z X Q (pc + 3) lv (.ref r :: st) I L) : Z X Q pc lv (.ref a :: st) I L := by
  obtain ⟨p, l, e, R, s, m, args, below, meth, c, nL, ad, base, D, cA, k1, k2, n⟩ := X
  obtain ⟨hx, hb, hml, hown, hts, hK, hbase, hR, hk, hinj, had, hlk, hRO, rfl, rfl, hrt⟩ := hC
  intro H locs ls hP hS hl
  obtain ⟨hf1, hf2, hf3, hf4⟩ := hf
  have he := e_ws_obj (ad := ad) (cA := cA) (I := I) (L := L) ha hf1
  exact va_get hx hb hts (e_hin hf1) hown hK hP a he (e_cl_at hf1) i hf2 (hts _ hf4) (fun _ h => h) (v := .ref (ad r)) (e_fs_at hf2 (by simp [e_fld, hf3, hdc, hr, va_rf])) hd (k H locs ls hP hS hl)
theorem z_putI (hC : e_C X cc own nl rt d nW) {index ci i a : Nat} {x : Int32} (hf : e_fk own index ci i "I") (hfin : ((e_cl ci).2.1 i).2.2.2 = false) (ha : e_at nW a ci) (hd : decode cc pc = .ok (.putfield index, 3)) (k : Z X Q (pc + 3) lv st (e_ui I a i x) L) : Z X Q pc lv (.int x :: .ref a :: st) I L := by
  obtain ⟨p, l, e, R, s, m, args, below, meth, c, nL, ad, base, D, cA, k1, k2, n⟩ := X
  obtain ⟨hx, hb, hml, hown, hts, hK, hbase, hR, hk, hinj, had, hlk, hRO, rfl, rfl, hrt⟩ := hC
  intro H locs ls hP hS hl
  obtain ⟨hf1, hf2, hf3, hf4⟩ := hf
  have he := e_ws_obj (ad := ad) (cA := cA) (I := I) (L := L) ha hf1
  have hD : va_D (e_A base) (e_ws ad cA n I L) := e_ws_D hinj had
  obtain ⟨ty0, hty, hnm⟩ := e_tyok hf1
  refine va_put hx hb hts (e_hin hf1) ty0 hty hnm hown hK hP hD hS a he (e_cl_at hf1) i hf2 (hts _ hf4) (fun _ h => h) hfin (ty := .int) (v := .int x) (by rw [hf3]; decide +kernel) rfl rfl (by simpa [e_fs] using hf2) hd (fun H1 locs1 hP1 hD1 hS1 => ?_)
  rw [e_ws_set (I' := (e_ui I a i x)) (L' := L) (e_cell_putI ha hf1 (by rw [hf3]; rfl)) e_ui_off (fun _ _ => rfl)] at hP1
  exact k H1 locs1 ls hP1 hS1 hl
theorem z_putZ (hC : e_C X cc own nl rt d nW) {index ci i a : Nat} {x : Int32} (hf : e_fk own index ci i "Z") (hfin : ((e_cl ci).2.1 i).2.2.2 = false) (hx01 : x = 0 ∨ x = 1) (ha : e_at nW a ci) (hd : decode cc pc = .ok (.putfield index, 3)) (k : Z X Q (pc + 3) lv st (e_ui I a i x) L) : Z X Q pc lv (.int x :: .ref a :: st) I L := by
  obtain ⟨p, l, e, R, s, m, args, below, meth, c, nL, ad, base, D, cA, k1, k2, n⟩ := X
  obtain ⟨hx, hb, hml, hown, hts, hK, hbase, hR, hk, hinj, had, hlk, hRO, rfl, rfl, hrt⟩ := hC
  intro H locs ls hP hS hl
  obtain ⟨hf1, hf2, hf3, hf4⟩ := hf
  have he := e_ws_obj (ad := ad) (cA := cA) (I := I) (L := L) ha hf1
  have hD : va_D (e_A base) (e_ws ad cA n I L) := e_ws_D hinj had
  obtain ⟨ty0, hty, hnm⟩ := e_tyok hf1
  refine va_put hx hb hts (e_hin hf1) ty0 hty hnm hown hK hP hD hS a he (e_cl_at hf1) i hf2 (hts _ hf4) (fun _ h => h) hfin (ty := .boolean) (v := .int x) (by rw [hf3]; decide +kernel) (e_narZ hx01) (e_fitZ hx01) (by simpa [e_fs] using hf2) hd (fun H1 locs1 hP1 hD1 hS1 => ?_)
  rw [e_ws_set (I' := (e_ui I a i x)) (L' := L) (e_cell_putI ha hf1 (by rw [hf3]; rfl)) e_ui_off (fun _ _ => rfl)] at hP1
  exact k H1 locs1 ls hP1 hS1 hl
theorem z_putL (hC : e_C X cc own nl rt d nW) {index ci i a : Nat} {x : Int64} (hf : e_fk own index ci i "J") (hfin : ((e_cl ci).2.1 i).2.2.2 = false) (ha : e_at nW a ci) (hd : decode cc pc = .ok (.putfield index, 3)) (k : Z X Q (pc + 3) lv st I (e_ul L a i x)) : Z X Q pc lv (.long x :: .ref a :: st) I L := by
  obtain ⟨p, l, e, R, s, m, args, below, meth, c, nL, ad, base, D, cA, k1, k2, n⟩ := X
  obtain ⟨hx, hb, hml, hown, hts, hK, hbase, hR, hk, hinj, had, hlk, hRO, rfl, rfl, hrt⟩ := hC
  intro H locs ls hP hS hl
  obtain ⟨hf1, hf2, hf3, hf4⟩ := hf
  have he := e_ws_obj (ad := ad) (cA := cA) (I := I) (L := L) ha hf1
  have hD : va_D (e_A base) (e_ws ad cA n I L) := e_ws_D hinj had
  obtain ⟨ty0, hty, hnm⟩ := e_tyok hf1
  refine va_put hx hb hts (e_hin hf1) ty0 hty hnm hown hK hP hD hS a he (e_cl_at hf1) i hf2 (hts _ hf4) (fun _ h => h) hfin (ty := .long) (v := .long x) (by rw [hf3]; decide +kernel) rfl rfl (by simpa [e_fs] using hf2) hd (fun H1 locs1 hP1 hD1 hS1 => ?_)
  rw [e_ws_set (I' := I) (L' := (e_ul L a i x)) (e_cell_putL ha hf1 (by rw [hf3]; rfl)) (fun _ _ => rfl) e_ul_off] at hP1
  exact k H1 locs1 ls hP1 hS1 hl
theorem z_iald (hC : e_C X cc own nl rt d nW) {a N : Nat} {j : Int32} (ha : e_ar nW a 9 N) (hj : vp_in j N) (hd : decode cc pc = .ok (.iaload, 1)) (k : Z X Q (pc + 1) lv (.int (I a j.toNatClampNeg) :: st) I L) : Z X Q pc lv (.int j :: .ref a :: st) I L := by
  obtain ⟨p, l, e, R, s, m, args, below, meth, c, nL, ad, base, D, cA, k1, k2, n⟩ := X
  obtain ⟨hx, hb, hml, hown, hts, hK, hbase, hR, hk, hinj, had, hlk, hRO, rfl, rfl, hrt⟩ := hC
  intro H locs ls hP hS hl
  exact va_iald hx hb hK hP a 0 (e_ws_i ha (by decide)) rfl hj hd (k H locs ls hP hS hl)
theorem z_bald (hC : e_C X cc own nl rt d nW) {a N : Nat} {j : Int32} (ha : e_ar nW a 10 N) (hj : vp_in j N) (hd : decode cc pc = .ok (.baload, 1)) (k : Z X Q (pc + 1) lv (.int (I a j.toNatClampNeg) :: st) I L) : Z X Q pc lv (.int j :: .ref a :: st) I L := by
  obtain ⟨p, l, e, R, s, m, args, below, meth, c, nL, ad, base, D, cA, k1, k2, n⟩ := X
  obtain ⟨hx, hb, hml, hown, hts, hK, hbase, hR, hk, hinj, had, hlk, hRO, rfl, rfl, hrt⟩ := hC
  intro H locs ls hP hS hl
  exact va_bald hx hb hK hP a 1 (e_ws_i ha (by decide)) rfl hj hd (k H locs ls hP hS hl)
theorem z_zald (hC : e_C X cc own nl rt d nW) {a N : Nat} {j : Int32} (ha : e_ar nW a 11 N) (hj : vp_in j N) (hd : decode cc pc = .ok (.baload, 1)) (k : Z X Q (pc + 1) lv (.int (I a j.toNatClampNeg) :: st) I L) : Z X Q pc lv (.int j :: .ref a :: st) I L := by
  obtain ⟨p, l, e, R, s, m, args, below, meth, c, nL, ad, base, D, cA, k1, k2, n⟩ := X
  obtain ⟨hx, hb, hml, hown, hts, hK, hbase, hR, hk, hinj, had, hlk, hRO, rfl, rfl, hrt⟩ := hC
  intro H locs ls hP hS hl
  exact va_zald hx hb hK hP a 2 (e_ws_i ha (by decide)) rfl hj hd (k H locs ls hP hS hl)
theorem z_lald (hC : e_C X cc own nl rt d nW) {a N : Nat} {j : Int32} (ha : e_ar nW a 12 N) (hj : vp_in j N) (hd : decode cc pc = .ok (.laload, 1)) (k : Z X Q (pc + 1) lv (.long (L a j.toNatClampNeg) :: st) I L) : Z X Q pc lv (.int j :: .ref a :: st) I L := by
  obtain ⟨p, l, e, R, s, m, args, below, meth, c, nL, ad, base, D, cA, k1, k2, n⟩ := X
  obtain ⟨hx, hb, hml, hown, hts, hK, hbase, hR, hk, hinj, had, hlk, hRO, rfl, rfl, hrt⟩ := hC
  intro H locs ls hP hS hl
  exact va_lald hx hb hK hP a 3 (e_ws_l ha) rfl hj hd (k H locs ls hP hS hl)
theorem z_aald (hC : e_C X cc own nl rt d nW) {a N r : Nat} {j : Int32} (ha : e_ar nW a 13 N) (hj : vp_in j N) (hr : gR a j.toNatClampNeg = some r) (hd : decode cc pc = .ok (.aaload, 1)) (k : Z X Q (pc + 1) lv (.ref r :: st) I L) : Z X Q pc lv (.int j :: .ref a :: st) I L := by
  obtain ⟨p, l, e, R, s, m, args, below, meth, c, nL, ad, base, D, cA, k1, k2, n⟩ := X
  obtain ⟨hx, hb, hml, hown, hts, hK, hbase, hR, hk, hinj, had, hlk, hRO, rfl, rfl, hrt⟩ := hC
  intro H locs ls hP hS hl
  refine va_aldq hx hb hK hP a 4 (e_ws_q ha) rfl hj hd ?_
  rw [hr]
  exact k H locs ls hP hS hl
theorem z_iast (hC : e_C X cc own nl rt d nW) {a N : Nat} {j x : Int32} (ha : e_ar nW a 9 N) (hj : vp_in j N) (hd : decode cc pc = .ok (.iastore, 1)) (k : Z X Q (pc + 1) lv st (e_ui I a j.toNatClampNeg x) L) : Z X Q pc lv (.int x :: .int j :: .ref a :: st) I L := by
  obtain ⟨p, l, e, R, s, m, args, below, meth, c, nL, ad, base, D, cA, k1, k2, n⟩ := X
  obtain ⟨hx, hb, hml, hown, hts, hK, hbase, hR, hk, hinj, had, hlk, hRO, rfl, rfl, hrt⟩ := hC
  intro H locs ls hP hS hl
  have hD : va_D (e_A base) (e_ws ad cA n I L) := e_ws_D hinj had
  refine va_iast hx hb hK hP hD hS a 0 (e_ws_i ha (by decide)) rfl hj hd (fun H1 locs1 hP1 hD1 hS1 => ?_)
  rw [e_ws_set (I' := e_ui I a j.toNatClampNeg x) (L' := L) (by rw [e_cell_i ha (by decide), e_ui_at]) e_ui_off (fun _ _ => rfl)] at hP1
  exact k H1 locs1 ls hP1 hS1 hl
theorem z_bast (hC : e_C X cc own nl rt d nW) {a N : Nat} {j x : Int32} (ha : e_ar nW a 10 N) (hj : vp_in j N) (hd : decode cc pc = .ok (.bastore, 1)) (k : Z X Q (pc + 1) lv st (e_ui I a j.toNatClampNeg (vp_nar .byte x)) L) : Z X Q pc lv (.int x :: .int j :: .ref a :: st) I L := by
  obtain ⟨p, l, e, R, s, m, args, below, meth, c, nL, ad, base, D, cA, k1, k2, n⟩ := X
  obtain ⟨hx, hb, hml, hown, hts, hK, hbase, hR, hk, hinj, had, hlk, hRO, rfl, rfl, hrt⟩ := hC
  intro H locs ls hP hS hl
  have hD : va_D (e_A base) (e_ws ad cA n I L) := e_ws_D hinj had
  refine va_bast hx hb hK hP hD hS a 1 (e_ws_i ha (by decide)) rfl hj hd (fun H1 locs1 hP1 hD1 hS1 => ?_)
  rw [e_ws_set (I' := e_ui I a j.toNatClampNeg (vp_nar .byte x)) (L' := L) (by rw [e_cell_i ha (by decide), e_ui_at]) e_ui_off (fun _ _ => rfl)] at hP1
  exact k H1 locs1 ls hP1 hS1 hl
theorem z_zast (hC : e_C X cc own nl rt d nW) {a N : Nat} {j x : Int32} (ha : e_ar nW a 11 N) (hj : vp_in j N) (hd : decode cc pc = .ok (.bastore, 1)) (k : Z X Q (pc + 1) lv st (e_ui I a j.toNatClampNeg (vp_nar .boolean x)) L) : Z X Q pc lv (.int x :: .int j :: .ref a :: st) I L := by
  obtain ⟨p, l, e, R, s, m, args, below, meth, c, nL, ad, base, D, cA, k1, k2, n⟩ := X
  obtain ⟨hx, hb, hml, hown, hts, hK, hbase, hR, hk, hinj, had, hlk, hRO, rfl, rfl, hrt⟩ := hC
  intro H locs ls hP hS hl
  have hD : va_D (e_A base) (e_ws ad cA n I L) := e_ws_D hinj had
  refine va_zast hx hb hK hP hD hS a 2 (e_ws_i ha (by decide)) rfl hj hd (fun H1 locs1 hP1 hD1 hS1 => ?_)
  rw [e_ws_set (I' := e_ui I a j.toNatClampNeg (vp_nar .boolean x)) (L' := L) (by rw [e_cell_i ha (by decide), e_ui_at]) e_ui_off (fun _ _ => rfl)] at hP1
  exact k H1 locs1 ls hP1 hS1 hl
theorem z_last (hC : e_C X cc own nl rt d nW) {a N : Nat} {j : Int32} {x : Int64} (ha : e_ar nW a 12 N) (hj : vp_in j N) (hd : decode cc pc = .ok (.lastore, 1)) (k : Z X Q (pc + 1) lv st I (e_ul L a j.toNatClampNeg x)) : Z X Q pc lv (.long x :: .int j :: .ref a :: st) I L := by
  obtain ⟨p, l, e, R, s, m, args, below, meth, c, nL, ad, base, D, cA, k1, k2, n⟩ := X
  obtain ⟨hx, hb, hml, hown, hts, hK, hbase, hR, hk, hinj, had, hlk, hRO, rfl, rfl, hrt⟩ := hC
  intro H locs ls hP hS hl
  have hD : va_D (e_A base) (e_ws ad cA n I L) := e_ws_D hinj had
  refine va_last hx hb hK hP hD hS a 3 (e_ws_l ha) rfl hj hd (fun H1 locs1 hP1 hD1 hS1 => ?_)
  rw [e_ws_set (I' := I) (L' := e_ul L a j.toNatClampNeg x) (by rw [e_cell_l ha, e_ul_at]) (fun _ _ => rfl) e_ul_off] at hP1
  exact k H1 locs1 ls hP1 hS1 hl
theorem z_alen (hC : e_C X cc own nl rt d nW) {a N t : Nat} (ha : e_ar nW a t N) (ht : t = 9) (hd : decode cc pc = .ok (.arraylength, 1)) (k : Z X Q (pc + 1) lv (.int (Int32.ofNat N) :: st) I L) : Z X Q pc lv (.ref a :: st) I L := by
  obtain ⟨p, l, e, R, s, m, args, below, meth, c, nL, ad, base, D, cA, k1, k2, n⟩ := X
  obtain ⟨hx, hb, hml, hown, hts, hK, hbase, hR, hk, hinj, had, hlk, hRO, rfl, rfl, hrt⟩ := hC
  intro H locs ls hP hS hl
  exact va_alen hx hb hK hP a 0 (e_ws_i ha (Or.inl ht)) (by rw [ht]; rfl) rfl hd (k H locs ls hP hS hl)
theorem z_copyi (hC : e_C X cc own nl rt d nW) {index a0 a1 N0 N1 : Nat} {sp dp n : Int32} (h1 : Cond.methodLink own index arraycopyName ∈ e_tbl) (h2 : Cond.native arraycopyName ∈ e_tbl) (h3 : Cond.static arraycopyName ∈ e_tbl) (h4 : Cond.initialized "java/lang/System" ∈ e_tbl) (ha0 : e_ar nW a0 9 N0) (ha1 : e_ar nW a1 9 N1) (hsp : ¬ sp < 0) (hdp : ¬ dp < 0) (hn : ¬ n < 0) (hb0 : sp.toNatClampNeg + n.toNatClampNeg ≤ N0) (hb1 : dp.toNatClampNeg + n.toNatClampNeg ≤ N1) (hroom : (st.map fun v => v.category).sum ≤ 8) (hd : decode cc pc = .ok (.invokestatic index, 3)) (k : Z X Q (pc + 3) lv st (e_cpy I a0 sp.toNatClampNeg a1 dp.toNatClampNeg n.toNatClampNeg) L) : Z X Q pc lv (.int n :: .int dp :: .ref a1 :: .int sp :: .ref a0 :: st) I L := by
  obtain ⟨p, l, e, R, s, m, args, below, meth, c, nL, ad, base, D, cA, k1, k2, nn⟩ := X
  obtain ⟨hx, hb, hml, hown, hts, hK, hbase, hR, hk, hinj, had, hlk, hRO, rfl, rfl, hrt⟩ := hC
  intro H locs ls hP hS hl
  have hD : va_D (e_A base) (e_ws ad cA nn I L) := e_ws_D hinj had
  refine va_copyi hx hb (hml.trans hl.1.symm) hown (hts _ h1) (hts _ h2) (hts _ h3) (hts _ h4) hK hP hD hS a0 a1 0 0 (ty := .int) (e_ws_i ha0 (by decide)) (e_ws_i ha1 (by decide)) rfl rfl rfl hsp hdp hn hb0 hb1 (fun _ _ => rfl) (by omega) (by rw [cv_cats]; exact Nat.le_trans (Nat.add_le_add hroom (show nativeFrameWords "java/lang/System" "arraycopy" 5 + 11 ≤ 30 by decide +kernel)) (by omega)) hd (fun H1 locs1 hP1 hD1 hS1 => ?_)
  rw [e_ws_set (I' := e_cpy I a0 sp.toNatClampNeg a1 dp.toNatClampNeg n.toNatClampNeg) (L' := L) (by rw [e_cell_i ha1 (by decide), e_cpy_at]) e_cpy_off (fun _ _ => rfl)] at hP1
  exact k H1 locs1 ls hP1 hS1 hl
end EZ
/-! METHODS -/
theorem e_RO.same {ad : Nat → Nat} {base : Nat} {s U : State} {H : Heap} (hv : U.vm = s.vm) (h : e_RO ad base s H) : e_RO ad base U H := by
  obtain ⟨h1, h2, h3, h4, h5, h6, h7, h8, h9, h10⟩ := h
  have hal : s.vm.Alike U.vm := by rw [hv]; exact Vm.Alike.refl _
  exact ⟨h1.moved hal, fun i q hi => (h2 i q hi).same hv, h3.moved hal, fun q hq => va_Nw.same rfl hv.symm (h4 q hq), h5.imp (fun h => h.moved hal) (fun h => h.moved hal), h6.moved hal, h7.moved hal, h8.moved hal, va_Nw.same rfl hv.symm h9, fun x hx => va_Nw.same rfl hv.symm (h10 x hx)⟩
def e_Pc (ad : Nat → Nat) (base : Nat) (D : va_G) (cA : Nat → ClassId) (n : Nat) (av : List Value) (I : e_I) (L : e_L) : Array Value → State → Prop :=
  va_Pc (av.map (cv ad)) (fun U => base ≤ U.heap.size ∧ va_P D vwCl (e_ws ad cA n I L) U.heap ∧ va_K D vwCl (e_tys cA) U ∧ e_RO ad base U U.heap)
def e_Qc (ad : Nat → Nat) (base : Nat) (D : va_G) (cA : Nat → ClassId) (n : Nat) (r : e_R) : Array Value → State → Outcome → State → Prop :=
  fun _ st o t => o = .returned (r.1.map (cv ad)) ∧ va_P D vwCl (e_ws ad cA n r.2.1 r.2.2) t.heap ∧ va_F (e_A base) st t
/-- method y's contract over the abstract memory: from I, L with the arguments av it returns r.1 and leaves r.2 -/
def Mt (y : MethodName) (b : ByteArray) (maxL : Nat) (ret : Option FieldType) (d n : Nat) (av : List Value) (I : e_I) (L : e_L) (r : e_R) : Prop :=
  ∀ (l : Launch) (ad : Nat → Nat) (base : Nat) (D : va_G) (cA : Nat → ClassId), (∀ i j, i < n → j < n → ad i = ad j → i = j) → (∀ i, i < n → base ≤ ad i) →
    Met l y (.code y b maxL ret :: e_tbl) { frames := d + 1, cells := 0, slots := 0, locals := 40 * (d + 1) } (e_Pc ad base D cA n av I L) (e_Qc ad base D cA n r) 0 0 (e_A base)
/-- what a method comes to -/
def e_Q (X : e_X) (r : e_R) : State → Prop := match X with
  | (_, _, _, _, s, _, args, below, _, _, _, ad, base, D, cA, k1, k2, n) => MQ below (e_Qc ad base D cA n r) args s k1 k2 (e_A base)
theorem e_enter {y : MethodName} {b : ByteArray} {maxL : Nat} {ret : Option FieldType} {d n : Nat} {av : List Value} {I : e_I} {L : e_L} {r : e_R} (hy : plainName y.cls = true) (hlen : (lg_sl av).length ≤ maxL)
    (h : ∀ X : e_X, e_C X b y.cls maxL ret d n → Z X (e_Q X r) 0 (lv_args 0 av) [] I L) : Mt y b maxL ret d n av I L r := by
  intro l ad base D cA hinj had
  refine Met.ofW (cc := b) (maxL := maxL) (ret := ret) hy rfl ?_
  intro p e s m args below meth c s₁ B hml hv
  obtain ⟨rfl, hbase, hP, hK, hRO⟩ := hv
  have hts := atoms_spec (ws := .code y b maxL ret :: e_tbl) B.pre
  have hC : e_C (p, l, e, _, s, m, (av.map (cv ad)).toArray, below, meth, c, maxL, ad, base, D, cA, 0, 0, n) b y.cls maxL ret d n :=
    ⟨B.exec, B.bytes, hml, findClass_of_methodNamed B.named, fun w hw => hts w (List.mem_cons_of_mem _ hw), hK, hbase, (⟨Nat.le_refl _, Nat.le_refl _⟩ : d + 1 ≤ (headSpec (.code y b maxL ret :: e_tbl) { frames := d + 1, cells := 0, slots := 0, locals := 40 * (d + 1) }).room.frames ∧ 40 * (d + 1) ≤ (headSpec (.code y b maxL ret :: e_tbl) { frames := d + 1, cells := 0, slots := 0, locals := 40 * (d + 1) }).room.locals), ⟨Nat.zero_le _, Nat.zero_le _⟩, hinj, had, B.notSynchronized, hRO, rfl, rfl, B.returns⟩
  have hq : ∀ av : List Value, (lg_sl (av.map (cv ad))).length = (lg_sl av).length := by
    intro av
    induction av with
    | nil => rfl
    | cons v av ih =>
      simp only [lg_sl, List.map_cons, List.flatMap_cons, List.length_append] at ih ⊢
      rw [ih, cv_cat]
      split <;> rfl
  have hl := lv_entry (av.map (cv ad)) (n := maxL) (by rw [hq]; exact hlen)
  rw [lg_entry_eq]
  generalize (lg_sl (av.map (cv ad)) ++ List.replicate (maxL - (lg_sl (av.map (cv ad))).length) Slot.unset).toArray = ls at hl ⊢
  have ha : ∀ (av : List Value) (i : Nat), lv_args i (av.map (cv ad)) = (lv_args i av).map (fun q => (q.1, cv ad q.2)) := by
    intro av
    induction av with
    | nil => intro i; rfl
    | cons v av ih =>
      intro i
      show (i, cv ad v) :: lv_args (if (cv ad v).category = 2 then i + 2 else i + 1) (av.map (cv ad)) = (i, cv ad v) :: (lv_args (if v.category = 2 then i + 2 else i + 1) av).map (fun q => (q.1, cv ad q.2))
      rw [cv_cat, ih]
  rw [ha] at hl
  exact h _ hC s.heap [] ls hP va_S.rf hl
section ER
variable {X : e_X} {cc : ByteArray} {own : String} {nl d nW : Nat} {rt : Option FieldType} {Q : State → Prop} {pc : Nat} {lv : List (Nat × Value)} {st : List Value} {I : e_I} {L : e_L}
theorem z_iret {v : Int32} (hC : e_C X cc own nl (some .int) d nW) (hd : decode cc pc = .ok (.ireturn, 1)) : Z X (e_Q X (some (.int v), I, L)) pc lv [.int v] I L := by
  obtain ⟨p, l, e, R, s, m, args, below, meth, c, nL, ad, base, D, cA, k1, k2, n⟩ := X
  obtain ⟨hx, hb, hml, hown, hts, hK, hbase, hR, hk, hinj, had, hlk, hRO, rfl, rfl, hrt⟩ := hC
  intro H locs ls hP hS hl
  exact W.iret hx hb hrt (fun t ht hW => ⟨rfl, by rw [ht]; exact hP, hS.F ht⟩) hS.2.2 hd hlk
theorem z_zret {v : Int32} (hC : e_C X cc own nl (some .boolean) d nW) (hv : v = 0 ∨ v = 1) (hd : decode cc pc = .ok (.ireturn, 1)) : Z X (e_Q X (some (.int v), I, L)) pc lv [.int v] I L := by
  obtain ⟨p, l, e, R, s, m, args, below, meth, c, nL, ad, base, D, cA, k1, k2, n⟩ := X
  obtain ⟨hx, hb, hml, hown, hts, hK, hbase, hR, hk, hinj, had, hlk, hRO, rfl, rfl, hrt⟩ := hC
  intro H locs ls hP hS hl
  exact W.zret hx hb hrt (e_narZ hv) (fun t ht hW => ⟨rfl, by rw [ht]; exact hP, hS.F ht⟩) hS.2.2 hd hlk
theorem z_lret {v : Int64} (hC : e_C X cc own nl (some .long) d nW) (hd : decode cc pc = .ok (.lreturn, 1)) : Z X (e_Q X (some (.long v), I, L)) pc lv [.long v] I L := by
  obtain ⟨p, l, e, R, s, m, args, below, meth, c, nL, ad, base, D, cA, k1, k2, n⟩ := X
  obtain ⟨hx, hb, hml, hown, hts, hK, hbase, hR, hk, hinj, had, hlk, hRO, rfl, rfl, hrt⟩ := hC
  intro H locs ls hP hS hl
  exact W.lret hx hb hrt (fun t ht hW => ⟨rfl, by rw [ht]; exact hP, hS.F ht⟩) hS.2.2 hd hlk
theorem z_vret (hC : e_C X cc own nl none d nW) (hd : decode cc pc = .ok (.return_, 1)) : Z X (e_Q X (none, I, L)) pc lv [] I L := by
  obtain ⟨p, l, e, R, s, m, args, below, meth, c, nL, ad, base, D, cA, k1, k2, n⟩ := X
  obtain ⟨hx, hb, hml, hown, hts, hK, hbase, hR, hk, hinj, had, hlk, hRO, rfl, rfl, hrt⟩ := hC
  intro H locs ls hP hS hl
  exact W.vret hx hb hrt (fun t ht hW => ⟨rfl, by rw [ht]; exact hP, hS.F ht⟩) hS.2.2 hd hlk
/-- what a call needs to know of the method that is called -/
def e_me (y : MethodName) (b : ByteArray) (maxL : Nat) (ret : Option FieldType) (np : Nat) : Prop :=
  Cond.code y b maxL ret ∈ e_tbl ∧ maxL ≤ 21 ∧ (y.cls ≠ "java/lang/invoke/MethodHandle" ∧ y.cls ≠ "java/lang/invoke/VarHandle") ∧ (parseMethodDescriptor y.desc).map (fun d => d.parameters.length) = some np ∧ Cond.initialized y.cls ∈ e_tbl
theorem e_good {args : Array Value} {s : State} {w : Cond} (hts : ∀ w ∈ e_tbl, w.before args s = true) (hw : w ∈ e_tbl) : ∀ (a' : Array Value) (U : State), s.WarmedH U.vm → w.before a' U = true := fun a' U hW => word_at hW (e_tbl_good hw) (hts w hw)
theorem e_np {y : MethodName} {np : Nat} (h : (parseMethodDescriptor y.desc).map (fun d => d.parameters.length) = some np) : ∀ sig, parseMethodDescriptor y.desc = some sig → np = sig.parameters.length := by
  intro sig hs
  rw [hs] at h
  exact (Option.some.inj h).symm
theorem e_blind {ad : Nat → Nat} {base : Nat} {D : va_G} {cA : Nat → ClassId} {n : Nat} {av : List Value} : FrameBlind (e_Pc ad base D cA n av I L) := fun a U g mk h => by
  obtain ⟨h1, h2, h3, h4, h5⟩ := h
  exact ⟨h1, h2, h3, va_K.moved (u := U) (U := U.calling g mk a) (Vm.Alike.refl U.vm) h4, e_RO.same (s := U) (U := U.calling g mk a) rfl h5⟩
theorem e_pre {ad : Nat → Nat} {base : Nat} {D : va_G} {cA : Nat → ClassId} {n : Nat} {av : List Value} {s : State} {H : Heap} {locs : List Loc} (hbase : base ≤ s.heap.size) (hP : va_P D vwCl (e_ws ad cA n I L) H) (hK : va_K D vwCl (e_tys cA) s) (hRO : e_RO ad base s s.heap) (hS : va_S (e_A base) s.heap H locs) :
    ∀ U : State, U.heap = H → s.WarmedH U.vm → e_Pc ad base D cA n av I L (av.map (cv ad)).toArray U := fun U hU hW =>
  ⟨rfl, by rw [hU]; exact Nat.le_trans hbase hS.1, by rw [hU]; exact hP, va_K.moved hW.alike hK, by rw [hU]; exact hRO.warm hW hS.2.1⟩
theorem e_back {p : Program} {l : Launch} {e : Env} {R : Room} {s : State} {m : MethodId} {args : Array Value} {below : List Frame} {meth : Method} {c : Code} {H : Heap} {locs : List Loc} {k1 k2 : Nat} {pc : Nat} {ls : Array Slot} {ss rest : List Value} {a : Array Value}
    {ad : Nat → Nat} {base : Nat} {D : va_G} {cA : Nat → ClassId} {n : Nat} {r : e_R} (hr : va_Run p l e R s m args below meth c H locs k1 k2 0 0 (F0 m pc ls (ss.map (cv ad))) (rest.map (cv ad)) (e_Qc ad base D cA n r a) (e_A base)) (hS : va_S (e_A base) s.heap H locs)
    (kk : ∀ (H1 : Heap) (locs1 : List Loc), va_P D vwCl (e_ws ad cA n r.2.1 r.2.2) H1 → va_S (e_A base) s.heap H1 locs1 → W p l e R s m args below meth c H1 locs1 k1 k2 Q (F0 m (pc + 3) ls ((r.1.toList ++ rest).map (cv ad)))) : W p l e R s m args below meth c H locs k1 k2 Q (F0 m pc ls (ss.map (cv ad))) := by
  intro T hT X
  obtain ⟨v, st₀, t, T', L, h0, X', hL, e1, e2, ⟨hv, hP, hz, hk⟩, st⟩ := hr T hT X
  have hv : v = r.1.map (cv ad) := Outcome.returned.inj hv
  rw [h0] at hz hk
  obtain ⟨t2, a1, b1⟩ := kk T'.heap (locs ++ L) (by rw [e1]; exact hP) ⟨Nat.le_trans hS.1 (by rw [e1]; exact hz), fun q h1 h2 => by rw [e1, hk q (Nat.lt_of_lt_of_le h1 hS.1) h2]; exact hS.2.1 q h1 h2, fun q hq => by
    rcases List.mem_append.mp hq with h | h
    · exact hS.2.2 q h
    · exact hL q h⟩ T' rfl X'
  refine ⟨t2, st t2 ?_, b1⟩
  rw [show v.toList ++ rest.map (cv ad) = (r.1.toList ++ rest).map (cv ad) by rw [hv]; cases r.1 <;> simp]
  exact a1
theorem z_callV (hC : e_C X cc own nl rt d nW) {y : MethodName} {b : ByteArray} {maxL : Nat} {ret : Option FieldType} {np d' idx a ci : Nat} {As ss : List Value} {r : e_R} (hm : e_me y b maxL ret np) (hl : Cond.methodLink own idx y ∈ e_tbl) (hi : Cond.instanceMethod y ∈ e_tbl) (hs : Cond.selects y.cls y y ∈ e_tbl) (hcl : vwCl[ci]?.map (fun q => q.1) = some y.cls) (hci : ci < 9) (ha : e_at nW a ci)
    (hM : Mt y b maxL ret d' nW (.ref a :: As) I L r) (hdd : d' < d) (hn : As.length = np) (hroom : (st.map fun v => v.category).sum ≤ 8) (hd : decode cc pc = .ok (.invokevirtual idx, 3)) (hss : ss = As.reverse ++ .ref a :: st) (k : Z X Q (pc + 3) lv (r.1.toList ++ st) r.2.1 r.2.2) : Z X Q pc lv ss I L := by
  subst hss
  obtain ⟨p, l, e, R, s, m, args, below, meth, c, nL, ad, base, D, cA, k1, k2, n⟩ := X
  obtain ⟨hx, hb, hml, hown, hts, hK, hbase, hR, hk, hinj, had, hlk, hRO, rfl, rfl, hrt⟩ := hC
  intro H locs ls hP hS hl'
  obtain ⟨m1, m2, m3, m4, m5⟩ := hm
  refine e_back (va_runV (C := y.cls) (b := ad a) (As := As.map (cv ad)) (rest := st.map (cv ad)) (Ts := e_tbl) (bytes := b) (maxL := maxL) (ret := ret) (n := np) ⟨hx, hb, hml, hown, hts⟩ (hM l ad base D cA hinj had) ⟨⟨rfl, rfl, ?_, ?_, ?_, List.mem_cons_self, hts _ m1, hts _ m5, m3, e_np m4, hts _ hl⟩, hts _ hi, hts _ hs⟩ ⟨e_blind, ?_, ?_⟩ rfl (by rw [List.length_map]; exact hn) hl'.1 (by simp [cv]) (lv_room (by rw [cv_cats]; exact hroom)) hd hk) hS (fun H1 locs1 hP1 hS1 => k H1 locs1 ls hP1 hS1 hl')
  · show d' + 1 + 1 ≤ R.frames
    omega
  · show 8 + (maxL + 11) + 40 * (d' + 1) ≤ R.locals
    omega
  · intro w hw a' U hW
    rcases List.mem_cons.mp hw with rfl | hw
    · exact e_good hts m1 a' U hW
    · exact e_good hts hw a' U hW
  · have hv := e_cl_at hci
    rw [hv] at hcl
    have h := va_recv hK hP (e_cl_at hci) (e_ws_obj ha hci)
    rw [show (e_cl ci).1 = y.cls from Option.some.inj hcl] at h
    exact h
  · exact e_pre (av := .ref a :: As) hbase hP hK hRO hS
theorem z_callVR (hC : e_C X cc own nl rt d nW) {y : MethodName} {b : ByteArray} {maxL : Nat} {ret : Option FieldType} {np d' idx a : Nat} {As ss : List Value} {r : e_R} (hm : e_me y b maxL ret np) (hl : Cond.methodLink own idx y ∈ e_tbl) (hi : Cond.instanceMethod y ∈ e_tbl) (hs : Cond.selects y.cls y y ∈ e_tbl) (hrecv : ∀ (s : State) (ad : Nat → Nat) (base : Nat) (H : Heap) (locs : List Loc), e_RO ad base s s.heap → va_S (e_A base) s.heap H locs → ∃ cell : Cell, H[ad a]? = some cell ∧ cell.vm.isStatics = false ∧ s.vm.findClass y.cls = some cell.cls)
    (hM : Mt y b maxL ret d' nW (.ref a :: As) I L r) (hdd : d' < d) (hn : As.length = np) (hroom : (st.map fun v => v.category).sum ≤ 8) (hd : decode cc pc = .ok (.invokevirtual idx, 3)) (hss : ss = As.reverse ++ .ref a :: st) (k : Z X Q (pc + 3) lv (r.1.toList ++ st) r.2.1 r.2.2) : Z X Q pc lv ss I L := by
  subst hss
  obtain ⟨p, l, e, R, s, m, args, below, meth, c, nL, ad, base, D, cA, k1, k2, n⟩ := X
  obtain ⟨hx, hb, hml, hown, hts, hK, hbase, hR, hk, hinj, had, hlk, hRO, rfl, rfl, hrt⟩ := hC
  intro H locs ls hP hS hl'
  obtain ⟨m1, m2, m3, m4, m5⟩ := hm
  refine e_back (va_runV (C := y.cls) (b := ad a) (As := As.map (cv ad)) (rest := st.map (cv ad)) (Ts := e_tbl) (bytes := b) (maxL := maxL) (ret := ret) (n := np) ⟨hx, hb, hml, hown, hts⟩ (hM l ad base D cA hinj had) ⟨⟨rfl, rfl, ?_, ?_, ?_, List.mem_cons_self, hts _ m1, hts _ m5, m3, e_np m4, hts _ hl⟩, hts _ hi, hts _ hs⟩ ⟨e_blind, ?_, ?_⟩ rfl (by rw [List.length_map]; exact hn) hl'.1 (by simp [cv]) (lv_room (by rw [cv_cats]; exact hroom)) hd hk) hS (fun H1 locs1 hP1 hS1 => k H1 locs1 ls hP1 hS1 hl')
  · show d' + 1 + 1 ≤ R.frames
    omega
  · show 8 + (maxL + 11) + 40 * (d' + 1) ≤ R.locals
    omega
  · intro w hw a' U hW
    rcases List.mem_cons.mp hw with rfl | hw
    · exact e_good hts m1 a' U hW
    · exact e_good hts hw a' U hW
  · exact hrecv s ad base H locs hRO hS
  · exact e_pre (av := .ref a :: As) hbase hP hK hRO hS
theorem z_nret {v : Int32} {ty : FieldType} (hC : e_C X cc own nl (some ty) d nW) (hn : narrow ty (.int v) = .int v) (hd : decode cc pc = .ok (.ireturn, 1)) : Z X (e_Q X (some (.int v), I, L)) pc lv [.int v] I L := by
  obtain ⟨p, l, e, R, s, m, args, below, meth, c, nL, ad, base, D, cA, k1, k2, n⟩ := X
  obtain ⟨hx, hb, hml, hown, hts, hK, hbase, hR, hk, hinj, had, hlk, hRO, rfl, rfl, hrt⟩ := hC
  intro H locs ls hP hS hl
  exact W.zret hx hb hrt hn (fun t ht hW => ⟨rfl, by rw [ht]; exact hP, hS.F ht⟩) hS.2.2 hd hlk
theorem z_iushr (hC : e_C X cc own nl rt d nW) {x y : Int32} (hd : decode cc pc = .ok (.iushr, 1)) (k : Z X Q (pc + 1) lv (.int ((x.toUInt32 >>> (y.toUInt32 &&& Int32.toUInt32 31)).toInt32) :: st) I L) : Z X Q pc lv (.int y :: .int x :: st) I L := by
  obtain ⟨p, l, e, R, s, m, args, below, meth, c, nL, ad, base, D, cA, k1, k2, n⟩ := X
  obtain ⟨hx, hb, hml, hown, hts, hK, hbase, hR, hk, hinj, had, hlk, hRO, rfl, rfl, hrt⟩ := hC
  intro H locs ls hP hS hl
  exact lv_iushr hx hb hd rfl (k H locs ls hP hS hl)
theorem z_i2c (hC : e_C X cc own nl rt d nW) {x : Int32} (hd : decode cc pc = .ok (.i2c, 1)) (k : Z X Q (pc + 1) lv (.int ((x.toUInt32 % 65536).toInt32) :: st) I L) : Z X Q pc lv (.int x :: st) I L := by
  obtain ⟨p, l, e, R, s, m, args, below, meth, c, nL, ad, base, D, cA, k1, k2, n⟩ := X
  obtain ⟨hx, hb, hml, hown, hts, hK, hbase, hR, hk, hinj, had, hlk, hRO, rfl, rfl, hrt⟩ := hC
  intro H locs ls hP hS hl
  exact lv_i2c hx hb hd rfl (k H locs ls hP hS hl)
/-! what lies below the world -/
theorem z_ldcs (hC : e_C X cc own nl rt d nW) {index i sid : Nat} {tx : String} (hi : e_str[i]? = some (own, index, tx, sid)) (hd : decode cc pc = .ok (.ldc index, 2)) (k : Z X Q (pc + 2) lv (.ref (1000 + sid) :: st) I L) : Z X Q pc lv st I L := by
  obtain ⟨p, l, e, R, s, m, args, below, meth, c, nL, ad, base, D, cA, k1, k2, n⟩ := X
  obtain ⟨hx, hb, hml, hown, hts, hK, hbase, hR, hk, hinj, had, hlk, hRO, rfl, rfl, hrt⟩ := hC
  intro H locs ls hP hS hl
  exact va_ldcS hx hb hown (hRO.2.1 i _ hi) hd (k H locs ls hP hS hl)
theorem z_getWv (hC : e_C X cc own nl rt d nW) {index i : Nat} (hi : i < 7) (hl0 : Cond.fieldLink own index "java/lang/String" "value" "[B" ∈ e_tbl) (hd : decode cc pc = .ok (.getfield index, 3)) (k : Z X Q (pc + 3) lv (.ref (2000 + i) :: st) I L) : Z X Q pc lv (.ref (1000 + i) :: st) I L := by
  obtain ⟨p, l, e, R, s, m, args, below, meth, c, nL, ad, base, D, cA, k1, k2, n⟩ := X
  obtain ⟨hx, hb, hml, hown, hts, hK, hbase, hR, hk, hinj, had, hlk, hRO, rfl, rfl, hrt⟩ := hC
  intro H locs ls hP hS hl
  exact vk_getf hx hb (hRO.1.1 i hi).2.2.1 hS hown (hts _ hl0) (fun _ h => h) hd (k H locs ls hP hS hl)
theorem z_getWc (hC : e_C X cc own nl rt d nW) {index i : Nat} (hi : i < 7) (hl0 : Cond.fieldLink own index "java/lang/String" "coder" "B" ∈ e_tbl) (hd : decode cc pc = .ok (.getfield index, 3)) (k : Z X Q (pc + 3) lv (.int 0 :: st) I L) : Z X Q pc lv (.ref (1000 + i) :: st) I L := by
  obtain ⟨p, l, e, R, s, m, args, below, meth, c, nL, ad, base, D, cA, k1, k2, n⟩ := X
  obtain ⟨hx, hb, hml, hown, hts, hK, hbase, hR, hk, hinj, had, hlk, hRO, rfl, rfl, hrt⟩ := hC
  intro H locs ls hP hS hl
  exact vk_getf hx hb (hRO.1.1 i hi).2.1 hS hown (hts _ hl0) (fun _ h => h) hd (k H locs ls hP hS hl)
theorem z_getsC (hC : e_C X cc own nl rt d nW) {index : Nat} (hl0 : Cond.fieldLink own index "java/lang/String" "COMPACT_STRINGS" "Z" ∈ e_tbl) (hd : decode cc pc = .ok (.getstatic index, 3)) (k : Z X Q (pc + 3) lv (.int 1 :: st) I L) : Z X Q pc lv st I L := by
  obtain ⟨p, l, e, R, s, m, args, below, meth, c, nL, ad, base, D, cA, k1, k2, n⟩ := X
  obtain ⟨hx, hb, hml, hown, hts, hK, hbase, hR, hk, hinj, had, hlk, hRO, rfl, rfl, hrt⟩ := hC
  intro H locs ls hP hS hl
  exact va_gets hx hb hRO.2.2.1 hS hown (hts _ hl0) (fun _ h => h) hd (k H locs ls hP hS hl)
theorem z_getsP (hC : e_C X cc own nl rt d nW) {index : Nat} (hl0 : Cond.fieldLink own index "jdk/internal/util/Preconditions" "SIOOBE_FORMATTER" "Ljava/util/function/BiFunction;" ∈ e_tbl) (hd : decode cc pc = .ok (.getstatic index, 3)) (k1 : Z X Q (pc + 3) lv (.null :: st) I L) (k2 : Z X Q (pc + 3) lv (.ref 3000 :: st) I L) : Z X Q pc lv st I L := by
  obtain ⟨p, l, e, R, s, m, args, below, meth, c, nL, ad, base, D, cA, k1, k2, n⟩ := X
  obtain ⟨hx, hb, hml, hown, hts, hK, hbase, hR, hk, hinj, had, hlk, hRO, rfl, rfl, hrt⟩ := hC
  intro H locs ls hP hS hl
  rcases hRO.2.2.2.2.1 with h | h
  · exact va_gets hx hb h hS hown (hts _ hl0) (fun _ h => h) hd (k1 H locs ls hP hS hl)
  · exact va_gets hx hb h hS hown (hts _ hl0) (fun _ h => h) hd (k2 H locs ls hP hS hl)
theorem z_alenW (hC : e_C X cc own nl rt d nW) {i : Nat} (hi : i < 7) (hd : decode cc pc = .ok (.arraylength, 1)) (k : Z X Q (pc + 1) lv (.int (Int32.ofNat (e_slen.getD i 0)) :: st) I L) : Z X Q pc lv (.ref (2000 + i) :: st) I L := by
  obtain ⟨p, l, e, R, s, m, args, below, meth, c, nL, ad, base, D, cA, k1, k2, n⟩ := X
  obtain ⟨hx, hb, hml, hown, hts, hK, hbase, hR, hk, hinj, had, hlk, hRO, rfl, rfl, hrt⟩ := hC
  intro H locs ls hP hS hl
  exact va_tlen hx hb (hRO.1.1 i hi).2.2.2 hS rfl hd (k H locs ls hP hS hl)
theorem z_baldW (hC : e_C X cc own nl rt d nW) {i : Nat} {j : Int32} (hi : i < 7) (hj : vp_in j (e_slen.getD i 0)) (hd : decode cc pc = .ok (.baload, 1)) (k : Z X Q (pc + 1) lv (.int ((e_sbyt.getD i []).getD j.toNatClampNeg 0) :: st) I L) : Z X Q pc lv (.int j :: .ref (2000 + i) :: st) I L := by
  obtain ⟨p, l, e, R, s, m, args, below, meth, c, nL, ad, base, D, cA, k1, k2, n⟩ := X
  obtain ⟨hx, hb, hml, hown, hts, hK, hbase, hR, hk, hinj, had, hlk, hRO, rfl, rfl, hrt⟩ := hC
  intro H locs ls hP hS hl
  exact va_tb hx hb (hRO.1.1 i hi).2.2.2 hS hj rfl hd (k H locs ls hP hS hl)
theorem e_recvW {i : Nat} (hi : i < 7) : ∀ (s : State) (ad : Nat → Nat) (base : Nat) (H : Heap) (locs : List Loc), e_RO ad base s s.heap → va_S (e_A base) s.heap H locs → ∃ cell : Cell, H[ad (1000 + i)]? = some cell ∧ cell.vm.isStatics = false ∧ s.vm.findClass "java/lang/String" = some cell.cls :=
  fun s ad base H locs hRO hS => vk_recv (adK := fun i => ad (1000 + i)) (i := i) hRO.1 hi hS
theorem z_callS (hC : e_C X cc own nl rt d nW) {y : MethodName} {b : ByteArray} {maxL : Nat} {ret : Option FieldType} {np d' idx : Nat} {As ss : List Value} {r : e_R} (hm : e_me y b maxL ret np) (hl : Cond.methodLink own idx y ∈ e_tbl) (hi : Cond.static y ∈ e_tbl)
    (hM : Mt y b maxL ret d' nW As I L r) (hdd : d' < d) (hn : As.length = np) (hroom : (st.map fun v => v.category).sum ≤ 8) (hd : decode cc pc = .ok (.invokestatic idx, 3)) (hss : ss = As.reverse ++ st) (k : Z X Q (pc + 3) lv (r.1.toList ++ st) r.2.1 r.2.2) : Z X Q pc lv ss I L := by
  subst hss
  obtain ⟨p, l, e, R, s, m, args, below, meth, c, nL, ad, base, D, cA, k1, k2, n⟩ := X
  obtain ⟨hx, hb, hml, hown, hts, hK, hbase, hR, hk, hinj, had, hlk, hRO, rfl, rfl, hrt⟩ := hC
  intro H locs ls hP hS hl'
  obtain ⟨m1, m2, m3, m4, m5⟩ := hm
  refine e_back (va_runS (As := As.map (cv ad)) (rest := st.map (cv ad)) (Ts := e_tbl) (bytes := b) (maxL := maxL) (ret := ret) (n := np) ⟨hx, hb, hml, hown, hts⟩ (hM l ad base D cA hinj had) ⟨⟨rfl, rfl, ?_, ?_, ?_, List.mem_cons_self, hts _ m1, hts _ m5, m3, e_np m4, hts _ hl⟩, hts _ hi⟩ ⟨e_blind, ?_⟩ rfl (by rw [List.length_map]; exact hn) hl'.1 (by simp) (lv_room (by rw [cv_cats]; exact hroom)) hd hk) hS (fun H1 locs1 hP1 hS1 => k H1 locs1 ls hP1 hS1 hl')
  · show d' + 1 + 1 ≤ R.frames
    omega
  · show 8 + (maxL + 11) + 40 * (d' + 1) ≤ R.locals
    omega
  · intro w hw a' U hW
    rcases List.mem_cons.mp hw with rfl | hw
    · exact e_good hts m1 a' U hW
    · exact e_good hts hw a' U hW
  · exact e_pre (av := As) hbase hP hK hRO hS
theorem z_callSN (hC : e_C X cc own nl rt d nW) {y : MethodName} {b : ByteArray} {maxL : Nat} {ret : Option FieldType} {np d' idx : Nat} {As ss : List Value} {r : e_R} (hm : e_me y b maxL ret np) (hl : (own, idx, y) ∈ e_nest) (hi : Cond.static y ∈ e_tbl)
    (hM : Mt y b maxL ret d' nW As I L r) (hdd : d' < d) (hn : As.length = np) (hroom : (st.map fun v => v.category).sum ≤ 8) (hd : decode cc pc = .ok (.invokestatic idx, 3)) (hss : ss = As.reverse ++ st) (k : Z X Q (pc + 3) lv (r.1.toList ++ st) r.2.1 r.2.2) : Z X Q pc lv ss I L := by
  subst hss
  obtain ⟨p, l, e, R, s, m, args, below, meth, c, nL, ad, base, D, cA, k1, k2, n⟩ := X
  obtain ⟨hx, hb, hml, hown, hts, hK, hbase, hR, hk, hinj, had, hlk, hRO, rfl, rfl, hrt⟩ := hC
  intro H locs ls hP hS hl'
  obtain ⟨m1, m2, m3, m4, m5⟩ := hm
  refine e_back (va_runSN (host := "RunWorth") (As := As.map (cv ad)) (rest := st.map (cv ad)) (Ts := e_tbl) (bytes := b) (maxL := maxL) (ret := ret) (n := np) ⟨hx, hb, hml, hown, hts⟩ (hM l ad base D cA hinj had) ⟨⟨⟨rfl, rfl, ?_, ?_, ?_, List.mem_cons_self⟩, hts _ m1, hts _ m5, m3, e_np m4, va_Nw.use rfl (hRO.2.2.2.1 _ hl)⟩, hts _ hi, trivial⟩ ⟨e_blind, ?_⟩ rfl (by rw [List.length_map]; exact hn) hl'.1 (by simp) (lv_room (by rw [cv_cats]; exact hroom)) hd hk) hS (fun H1 locs1 hP1 hS1 => k H1 locs1 ls hP1 hS1 hl')
  · show d' + 1 + 1 ≤ R.frames
    omega
  · show 8 + (maxL + 11) + 40 * (d' + 1) ≤ R.locals
    omega
  · intro w hw a' U hW
    rcases List.mem_cons.mp hw with rfl | hw
    · exact e_good hts m1 a' U hW
    · exact e_good hts hw a' U hW
  · exact e_pre (av := As) hbase hP hK hRO hS
end ER

