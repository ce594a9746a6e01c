/-! THE START: what the Statement gives of it, the constructors, the world put in order -/
def e_tmL : List (String × Nat) := [("RunWorth$Tape", 25), ("RunWorth$Tape", 31), ("RunWorth$Tape", 33), ("RunWorth$Tape", 35), ("RunWorth$Tape", 37), ("RunWorth$Tape", 39), ("RunWorth", 357)]
def e_tm (i : Nat) : Term := .string (e_tmL.getD i ("", 0)).1 (e_tmL.getD i ("", 0)).2
abbrev e_flat : List Cond := flatC (Jvm.Cond.and given_1 narrow_1)
set_option maxRecDepth 100000 in
theorem st_ex : ∀ i, i < 7 → Cond.exactly (e_tm i) "java/lang/String" ∈ e_flat := by decide +kernel
set_option maxRecDepth 100000 in
theorem st_co : ∀ i, i < 7 → Cond.eq (.field (e_tm i) "java/lang/String" "coder" "B") (.int 0) ∈ e_flat := by decide +kernel
set_option maxRecDepth 100000 in
theorem st_ar : ∀ i, i < 7 → Cond.arrayOf (.field (e_tm i) "java/lang/String" "value" "[B") .byte ∈ e_flat := by decide +kernel
set_option maxRecDepth 100000 in
theorem st_le : ∀ i, i < 7 → Cond.eq (.length (.field (e_tm i) "java/lang/String" "value" "[B")) (.int (Int32.ofNat (e_slen.getD i 0))) ∈ e_flat := by decide +kernel
set_option maxRecDepth 100000 in
theorem st_el : ∀ i, i < 7 → ∀ j, j < e_slen.getD i 0 → Cond.eq (.elem (.field (e_tm i) "java/lang/String" "value" "[B") (.int (Int32.ofNat j))) (.int ((e_sbyt.getD i []).getD j 0)) ∈ e_flat := by decide +kernel
set_option maxRecDepth 100000 in
theorem st_ne : ∀ i, i < 7 → ∀ j, j < 7 → i ≠ j → Cond.not (Cond.eq (e_tm i) (e_tm j)) ∈ e_flat ∨ Cond.not (Cond.eq (e_tm j) (e_tm i)) ∈ e_flat := by decide +kernel
set_option maxRecDepth 100000 in
theorem st_eq : ∀ (i : Nat) (q : String × Nat × String × Nat), i < 13 → e_str[i]? = some q → e_tm q.2.2.2 = .string q.1 q.2.1 ∨ Cond.eq (e_tm q.2.2.2) (.string q.1 q.2.1) ∈ e_flat := by
  have h : ∀ i, i < 13 → (e_str[i]?.map fun q => decide (e_tm q.2.2.2 = .string q.1 q.2.1) || decide (Cond.eq (e_tm q.2.2.2) (.string q.1 q.2.1) ∈ e_flat)) = some true := by decide +kernel
  intro i q hi hq
  have := h i hi
  rw [hq] at this
  have := Option.some.inj this
  simp only [Bool.or_eq_true, decide_eq_true_eq] at this
  exact this
set_option maxRecDepth 100000 in
theorem st_sr : ∀ (i : Nat) (q : String × Nat × String × Nat), e_str[i]? = some q → i < 13 ∧ q.2.2.2 < 7 ∧ Cond.stringRef q.1 q.2.1 q.2.2.1 ∈ lw_tbl := by
  have h : ∀ i, i < 13 → (e_str[i]?.map fun q => decide (q.2.2.2 < 7) && decide (Cond.stringRef q.1 q.2.1 q.2.2.1 ∈ lw_tbl)) = some true := by decide +kernel
  intro i q hq
  have hi : i < 13 := (List.getElem?_eq_some_iff.mp hq).1
  have := h i hi
  rw [hq] at this
  have := Option.some.inj this
  simp only [Bool.and_eq_true, decide_eq_true_eq] at this
  exact ⟨hi, this⟩
set_option maxRecDepth 100000 in
theorem st_decl : ∀ x ∈ e_decl, Cond.declares x ∈ lw_tbl := by decide +kernel
set_option maxRecDepth 100000 in
theorem st_nest : ∀ q ∈ e_nest, Cond.methodLinkNest q.1 q.2.1 q.2.2 "RunWorth" ∈ lw_tbl := by decide +kernel
set_option maxRecDepth 100000 in
set_option maxHeartbeats 4000000 in
theorem start_RO {b : Nat} {s : State} (hts : ∀ w ∈ lw_tbl, w.before #[Value.ref b] s = true) (hgv : (Jvm.Cond.and given_1 narrow_1).before #[Value.ref b] s = true) :
    ∃ (adK adV : Nat → Nat) (a3 : Nat), ∀ ad : Nat → Nat, (∀ i, i < 7 → ad (1000 + i) = adK i) → (∀ i, i < 7 → ad (2000 + i) = adV i) → ad 3000 = a3 → e_RO ad s.heap.size s s.heap := by
  have hg := flat_of_before _ hgv
  have hA : ∀ a : Nat, a < s.heap.size → ¬ s.heap.size ≤ a := fun a h => Nat.not_le.mpr h
  obtain ⟨adK, adV, hV, hev⟩ := vk_Sof (args := #[Value.ref b]) (s := s) (N := 7) (tm := e_tm) (len := e_slen) (byt := e_sbyt) (A := fun q => s.heap.size ≤ q) (by decide +kernel) (fun i hi => hg _ (st_ex i hi)) (fun i hi => hg _ (st_co i hi)) (fun i hi => hg _ (st_ar i hi)) (fun i hi => hg _ (st_le i hi)) (fun i hi j hj => hg _ (st_el i hi j hj)) (fun i j hi hj hij => (st_ne i hi j hj hij).imp (fun h => hg _ h) (fun h => hg _ h)) hA
  have hsi : va_Zq "jdk/internal/util/Preconditions" "SIOOBE_FORMATTER" "Ljava/util/function/BiFunction;" (fun q => s.heap.size ≤ q) s s.heap := va_Zqof (hts _ (List.mem_of_getElem? (i := 156) (by decide +kernel))) (hts _ (List.mem_of_getElem? (i := 97) (by decide +kernel))) (hg _ (by decide +kernel)) hA
  obtain ⟨a3, h3⟩ : ∃ a3 : Nat, va_Z "jdk/internal/util/Preconditions" "SIOOBE_FORMATTER" "Ljava/util/function/BiFunction;" .null (fun q => s.heap.size ≤ q) s s.heap ∨ va_Z "jdk/internal/util/Preconditions" "SIOOBE_FORMATTER" "Ljava/util/function/BiFunction;" (.ref a3) (fun q => s.heap.size ≤ q) s s.heap := by
    rcases hsi with h | ⟨t, h⟩
    · exact ⟨0, Or.inl h⟩
    · exact ⟨t, Or.inr h⟩
  refine ⟨adK, adV, a3, fun ad h1 h2 h3' => ⟨⟨fun i hi => ?_, fun i j hi hj e => ?_⟩, fun i q hq => ?_, ?_, fun q hq => va_Nw.of rfl (hts _ (st_nest q hq)), ?_, ?_, ?_, va_AO.of (hts _ (List.mem_of_getElem? (i := 304) (by decide +kernel))), va_Nw.of rfl (hts _ (List.mem_of_getElem? (i := 1115) (by decide +kernel))), fun x hx => va_Nw.of rfl (hts _ (st_decl x hx))⟩⟩
  · show va_O "java/lang/String" (ad (1000 + i)) _ s s.heap ∧ va_OF "java/lang/String" "coder" "B" (.int 0) (ad (1000 + i)) _ s s.heap ∧ va_OF "java/lang/String" "value" "[B" (.ref (ad (2000 + i))) (ad (1000 + i)) _ s s.heap ∧ va_T .byte (ad (2000 + i)) _ _ _ s s.heap
    rw [h1 i hi, h2 i hi]
    exact hV.1 i hi
  · exact hV.2 i j hi hj ((h1 i hi).symm.trans (e.trans (h1 j hj)))
  · obtain ⟨hi, hs, hw⟩ := st_sr i q hq
    refine vk_R.of (A := #[Value.ref b]) (hts _ hw) ?_
    rw [h1 _ hs]
    rcases st_eq i q hi hq with h | h
    · rw [← h]; exact hev _ hs
    · exact va_eqR (hg _ h) (hev _ hs)
  · exact va_Zof (hts _ (List.mem_of_getElem? (i := 140) (by decide +kernel))) (hts _ (List.mem_of_getElem? (i := 95) (by decide +kernel))) (va_eqi (hg _ (by decide +kernel))) hA
  · rw [h3']; exact h3
  · exact vx_Zqof (hts _ (List.mem_of_getElem? (i := 1140) (by decide +kernel))) (hts _ (List.mem_of_getElem? (i := 109) (by decide +kernel))) (hg _ (by decide +kernel)) hA
  · exact vx_Zqof (hts _ (List.mem_of_getElem? (i := 1142) (by decide +kernel))) (hts _ (List.mem_of_getElem? (i := 109) (by decide +kernel))) (hg _ (by decide +kernel)) hA
theorem st_arr {args : Array Value} {s : State} {ty : FieldType} (h : (Cond.arrayClass ty).before args s = true) (hty : ∀ C, ty ≠ .object C) : ∃ c : ClassId, ArrOfT s c ty ∧ va_RA s c ty := by
  obtain ⟨c, k, comp, h1, h2, h3⟩ := Cond.arrayClass_spec (args := args) (first := s) (s := s) (o := none) (idx := []) h
  refine ⟨c, fun n z => ⟨fun k h => (by cases h), k, h2, comp, h3⟩, ?_⟩
  unfold va_RA
  cases ty <;> first | exact h1 | exact absurd rfl (hty _)
theorem st_arrG {args : Array Value} {s : State} {C : String} (h : (Cond.arrayOver (.object C)).before args s = true) : ∃ c : ClassId, ArrOfT s c (.object C) ∧ va_RA s c (.object C) := by
  obtain ⟨comp, c, k, h1, h2, h3, h4, h5⟩ := Cond.arrayOver_spec (args := args) (first := s) (s := s) (o := none) (idx := []) h
  exact ⟨c, fun n z => ⟨fun k h => (by cases h), k, h3, comp, h4⟩, k, comp, h3, h4, h1, h5⟩
theorem st_cls : ∀ ci, ci < 9 → Cond.instantiable (e_cl ci).1 (e_cl ci).2.2 ∈ lw_tbl := by decide +kernel
set_option maxHeartbeats 4000000 in
theorem start_K {b : Nat} {s : State} (hts : ∀ w ∈ lw_tbl, w.before #[Value.ref b] s = true) : ∃ (D : va_G) (cA : Nat → ClassId), va_K D vwCl (e_tys cA) s := by
  have h0 : ∀ ci, ∃ q : ClassId × (Nat → Nat), ci < 9 → u_Kn s (e_cl ci).1 (e_cl ci).2.1 (e_cl ci).2.2 q.1 q.2 := by
    intro ci
    by_cases hi : ci < 9
    · obtain ⟨cC, iS, h⟩ := u_known (N := (e_cl ci).2.2) hts (fun w hw => e_tbl_in (e_hin hi w hw)) (hts _ (st_cls ci hi))
      exact ⟨(cC, iS), fun _ => h⟩
    · exact ⟨(0, fun _ => 0), fun h => absurd h hi⟩
  obtain ⟨f, hf⟩ := Classical.axiomOfChoice h0
  obtain ⟨c9, k9⟩ := st_arr (ty := .int) (hts _ (List.mem_of_getElem? (i := 236) (by decide +kernel))) (fun C h => by cases h)
  obtain ⟨c10, k10⟩ := st_arr (ty := .byte) (hts _ (List.mem_of_getElem? (i := 237) (by decide +kernel))) (fun C h => by cases h)
  obtain ⟨c11, k11⟩ := st_arr (ty := .boolean) (hts _ (List.mem_of_getElem? (i := 238) (by decide +kernel))) (fun C h => by cases h)
  obtain ⟨c12, k12⟩ := st_arr (ty := .long) (hts _ (List.mem_of_getElem? (i := 374) (by decide +kernel))) (fun C h => by cases h)
  obtain ⟨c13, k13⟩ := st_arrG (C := "RunWorth$Game") (hts _ (List.mem_of_getElem? (i := 304) (by decide +kernel)))
  refine ⟨(fun k => (f k).1, fun k => (f k).2), fun t => if t = 9 then c9 else if t = 10 then c10 else if t = 11 then c11 else if t = 12 then c12 else c13, fun k q hq => ?_, fun k q hq => ?_⟩
  · have hk : k < 9 := (List.getElem?_eq_some_iff.mp hq).1
    rw [e_cl_at hk] at hq
    cases hq
    exact hf k hk
  · match k, hq with
    | 0, hq => cases hq; exact k9
    | 1, hq => cases hq; exact k10
    | 2, hq => cases hq; exact k11
    | 3, hq => cases hq; exact k12
    | 4, hq => cases hq; exact k13
    | k + 5, hq => simp [e_tys] at hq
