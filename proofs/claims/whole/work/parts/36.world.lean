section KW
variable {X : e_X} {cc : ByteArray} {own : String} {nl d nW : Nat} {rt : Option FieldType} {Q : State → Prop} {ws0 l : va_W} {k1 k2 pc : Nat} {lv : List (Nat × Value)} {st : List Value}
theorem k_astore_n (hC : e_C X cc own nl rt d nW) {f : Fin 4} {i x : Nat} {lv' : List (Nat × Value)} (hd : decode cc pc = .ok (.astore_n f, 1)) (hi : (f : Nat) = i) (hn : i < nl) (hl0 : (i, Value.ref x) :: lv.filter (fun q => !(q.1 == i) && !(q.1 + 1 == i && q.2.category == 2)) = lv') (k : ZK X Q ws0 k1 k2 (pc + 1) lv' st l) : ZK X Q ws0 k1 k2 pc lv (.ref x :: st) l := by
  obtain ⟨p, la, e, R, s, m, args, below, meth, c, nL, ad, base, D, cA, k1', k2', n'⟩ := X
  obtain ⟨hx, hb, hml, hown, hts, hK, hbase, hR, hk, hinj, had, hlk, hRO, rfl, rfl, hrt⟩ := hC
  intro H locs ls hP hD hS hl
  exact lv_astore_n hx hb hd hi hl hn hl0 (fun ls' hl' => k H locs ls' hP hD hS hl')
theorem k_istore (hC : e_C X cc own nl rt d nW) {i : Nat} {x : Int32} {lv' : List (Nat × Value)} (hd : decode cc pc = .ok (.istore i, 2)) (hn : i < nl) (hl0 : (i, Value.int x) :: lv.filter (fun q => !(q.1 == i) && !(q.1 + 1 == i && q.2.category == 2)) = lv') (k : ZK X Q ws0 k1 k2 (pc + 2) lv' st l) : ZK X Q ws0 k1 k2 pc lv (.int x :: st) l := by
  obtain ⟨p, la, e, R, s, m, args, below, meth, c, nL, ad, base, D, cA, k1', k2', n'⟩ := X
  obtain ⟨hx, hb, hml, hown, hts, hK, hbase, hR, hk, hinj, had, hlk, hRO, rfl, rfl, hrt⟩ := hC
  intro H locs ls hP hD hS hl
  exact lv_istore hx hb hd hl hn hl0 (fun ls' hl' => k H locs ls' hP hD hS hl')
end KW
def e_adf (qs : List Nat) (adK adV : Nat → Nat) (a3 b : Nat) : Nat → Nat := fun k => if k < 98 then qs.getD k 0 else if k < 1007 then adK (k - 1000) else if k < 2007 then adV (k - 2000) else if k = 3000 then a3 else b
def I0 : e_I := fun k i => if k = 6 then k_U [277693196, 65782373, 4723, 10494723, 400712, 29637648] i else if k = 83 ∧ i = 3 then -1 else 0
def L0 : e_L := fun _ _ => 0
theorem e_fs_ex {ad : Nat → Nat} {I : e_I} {L : e_L} {ci k N : Nat} {kd : List Nat} (hN : (e_cl ci).2.2 = N) (h : ∀ i, i < N → e_kd ((e_cl ci).2.1 i).2.2.1 = kd.getD i 0) : e_fs ad I L ci k = (List.range N).map (fun i => if kd.getD i 0 = 0 then Value.int (I k i) else if kd.getD i 0 = 1 then .long (L k i) else va_rf ((gR k i).map ad)) := by
  unfold e_fs
  rw [hN]
  apply List.map_congr_left
  intro i hi
  unfold e_fld
  rw [h i (List.mem_range.mp hi)]
theorem e_cell_o0 {ad : Nat → Nat} {cA : Nat → ClassId} {I : e_I} {L : e_L} {k : Nat} (h : (gS k).1 = 0) : e_cell ad cA I L k = .inr (0, (List.range 12).map (fun i => if ([0, 0, 0, 0, 0, 0, 0, 0, 2, 2, 2, 2] : List Nat).getD i 0 = 0 then Value.int (I k i) else if ([0, 0, 0, 0, 0, 0, 0, 0, 2, 2, 2, 2] : List Nat).getD i 0 = 1 then .long (L k i) else va_rf ((gR k i).map ad))) := by
  unfold e_cell
  rw [h, if_pos (by decide), e_fs_ex (N := 12) (kd := [0, 0, 0, 0, 0, 0, 0, 0, 2, 2, 2, 2]) (by decide +kernel) (by decide +kernel)]
theorem e_cell_o1 {ad : Nat → Nat} {cA : Nat → ClassId} {I : e_I} {L : e_L} {k : Nat} (h : (gS k).1 = 1) : e_cell ad cA I L k = .inr (1, (List.range 8).map (fun i => if ([2, 2, 2, 2, 2, 0, 0, 0] : List Nat).getD i 0 = 0 then Value.int (I k i) else if ([2, 2, 2, 2, 2, 0, 0, 0] : List Nat).getD i 0 = 1 then .long (L k i) else va_rf ((gR k i).map ad))) := by
  unfold e_cell
  rw [h, if_pos (by decide), e_fs_ex (N := 8) (kd := [2, 2, 2, 2, 2, 0, 0, 0]) (by decide +kernel) (by decide +kernel)]
theorem e_cell_o2 {ad : Nat → Nat} {cA : Nat → ClassId} {I : e_I} {L : e_L} {k : Nat} (h : (gS k).1 = 2) : e_cell ad cA I L k = .inr (2, (List.range 5).map (fun i => if ([2, 2, 0, 0, 0] : List Nat).getD i 0 = 0 then Value.int (I k i) else if ([2, 2, 0, 0, 0] : List Nat).getD i 0 = 1 then .long (L k i) else va_rf ((gR k i).map ad))) := by
  unfold e_cell
  rw [h, if_pos (by decide), e_fs_ex (N := 5) (kd := [2, 2, 0, 0, 0]) (by decide +kernel) (by decide +kernel)]
theorem e_cell_o3 {ad : Nat → Nat} {cA : Nat → ClassId} {I : e_I} {L : e_L} {k : Nat} (h : (gS k).1 = 3) : e_cell ad cA I L k = .inr (3, (List.range 4).map (fun i => if ([2, 2, 0, 1] : List Nat).getD i 0 = 0 then Value.int (I k i) else if ([2, 2, 0, 1] : List Nat).getD i 0 = 1 then .long (L k i) else va_rf ((gR k i).map ad))) := by
  unfold e_cell
  rw [h, if_pos (by decide), e_fs_ex (N := 4) (kd := [2, 2, 0, 1]) (by decide +kernel) (by decide +kernel)]
theorem e_cell_o4 {ad : Nat → Nat} {cA : Nat → ClassId} {I : e_I} {L : e_L} {k : Nat} (h : (gS k).1 = 4) : e_cell ad cA I L k = .inr (4, (List.range 3).map (fun i => if ([2, 0, 0] : List Nat).getD i 0 = 0 then Value.int (I k i) else if ([2, 0, 0] : List Nat).getD i 0 = 1 then .long (L k i) else va_rf ((gR k i).map ad))) := by
  unfold e_cell
  rw [h, if_pos (by decide), e_fs_ex (N := 3) (kd := [2, 0, 0]) (by decide +kernel) (by decide +kernel)]
theorem e_cell_o5 {ad : Nat → Nat} {cA : Nat → ClassId} {I : e_I} {L : e_L} {k : Nat} (h : (gS k).1 = 5) : e_cell ad cA I L k = .inr (5, (List.range 1).map (fun i => if ([1] : List Nat).getD i 0 = 0 then Value.int (I k i) else if ([1] : List Nat).getD i 0 = 1 then .long (L k i) else va_rf ((gR k i).map ad))) := by
  unfold e_cell
  rw [h, if_pos (by decide), e_fs_ex (N := 1) (kd := [1]) (by decide +kernel) (by decide +kernel)]
theorem e_cell_o6 {ad : Nat → Nat} {cA : Nat → ClassId} {I : e_I} {L : e_L} {k : Nat} (h : (gS k).1 = 6) : e_cell ad cA I L k = .inr (6, (List.range 14).map (fun i => if ([2, 2, 2, 0, 0, 0, 2, 2, 2, 0, 0, 0, 0, 0] : List Nat).getD i 0 = 0 then Value.int (I k i) else if ([2, 2, 2, 0, 0, 0, 2, 2, 2, 0, 0, 0, 0, 0] : List Nat).getD i 0 = 1 then .long (L k i) else va_rf ((gR k i).map ad))) := by
  unfold e_cell
  rw [h, if_pos (by decide), e_fs_ex (N := 14) (kd := [2, 2, 2, 0, 0, 0, 2, 2, 2, 0, 0, 0, 0, 0]) (by decide +kernel) (by decide +kernel)]
theorem e_cell_o7 {ad : Nat → Nat} {cA : Nat → ClassId} {I : e_I} {L : e_L} {k : Nat} (h : (gS k).1 = 7) : e_cell ad cA I L k = .inr (7, (List.range 11).map (fun i => if ([2, 2, 2, 2, 2, 2, 2, 2, 0, 0, 0] : List Nat).getD i 0 = 0 then Value.int (I k i) else if ([2, 2, 2, 2, 2, 2, 2, 2, 0, 0, 0] : List Nat).getD i 0 = 1 then .long (L k i) else va_rf ((gR k i).map ad))) := by
  unfold e_cell
  rw [h, if_pos (by decide), e_fs_ex (N := 11) (kd := [2, 2, 2, 2, 2, 2, 2, 2, 0, 0, 0]) (by decide +kernel) (by decide +kernel)]
theorem e_cell_o8 {ad : Nat → Nat} {cA : Nat → ClassId} {I : e_I} {L : e_L} {k : Nat} (h : (gS k).1 = 8) : e_cell ad cA I L k = .inr (8, (List.range 35).map (fun i => if ([0, 0, 0, 0, 2, 0, 0, 2, 2, 2, 2, 0, 0, 0, 0, 0, 0, 0, 0, 0, 0, 0, 2, 2, 2, 2, 1, 0, 2, 2, 1, 1, 2, 0, 2] : List Nat).getD i 0 = 0 then Value.int (I k i) else if ([0, 0, 0, 0, 2, 0, 0, 2, 2, 2, 2, 0, 0, 0, 0, 0, 0, 0, 0, 0, 0, 0, 2, 2, 2, 2, 1, 0, 2, 2, 1, 1, 2, 0, 2] : List Nat).getD i 0 = 1 then .long (L k i) else va_rf ((gR k i).map ad))) := by
  unfold e_cell
  rw [h, if_pos (by decide), e_fs_ex (N := 35) (kd := [0, 0, 0, 0, 2, 0, 0, 2, 2, 2, 2, 0, 0, 0, 0, 0, 0, 0, 0, 0, 0, 0, 2, 2, 2, 2, 1, 0, 2, 2, 1, 1, 2, 0, 2]) (by decide +kernel) (by decide +kernel)]
abbrev e_l98 (cA : Nat → ClassId) (q0 q1 q2 q3 q4 q5 q6 q7 q8 q9 q10 q11 q12 q13 q14 q15 q16 q17 q18 q19 q20 q21 q22 q23 q24 q25 q26 q27 q28 q29 q30 q31 q32 q33 q34 q35 q36 q37 q38 q39 q40 q41 q42 q43 q44 q45 q46 q47 q48 q49 q50 q51 q52 q53 q54 q55 q56 q57 q58 q59 q60 q61 q62 q63 q64 q65 q66 q67 q68 q69 q70 q71 q72 q73 q74 q75 q76 q77 q78 q79 q80 q81 q82 q83 q84 q85 q86 q87 q88 q89 q90 q91 q92 q93 q94 q95 q96 q97 : Nat) : va_W := [(q0, .inr (7, [.ref q1, .ref q8, .ref q9, .ref q14, .ref q19, .ref q71, .ref q79, .ref q82, .int 0, .int 0, .int 0])), (q1, .inr (6, [.ref q2, .ref q3, .ref q4, .int 0, .int 0, .int 0, .ref q5, .ref q6, .ref q7, .int 0, .int 0, .int 0, .int 0, .int 0])), (q2, n_i cA 9), (q3, n_i cA 54), (q4, n_i cA 5), (q5, n_b cA 500), (q6, .inl (cA 9, 6, .inl (k_U [277693196, 65782373, 4723, 10494723, 400712, 29637648]))), (q7, n_z cA 5), (q8, n_i cA 9), (q9, .inr (0, [.int 0, .int 0, .int 0, .int 0, .int 0, .int 0, .int 0, .int 0, .ref q10, .ref q11, .ref q12, .ref q13])), (q10, n_i cA 54), (q11, n_i cA 5), (q12, n_i cA 9), (q13, n_i cA 240), (q14, .inr (0, [.int 0, .int 0, .int 0, .int 0, .int 0, .int 0, .int 0, .int 0, .ref q15, .ref q16, .ref q17, .ref q18])), (q15, n_i cA 54), (q16, n_i cA 5), (q17, n_i cA 9), (q18, n_i cA 240), (q19, .inr (4, [.ref q20, .int 0, .int 0])), (q20, .inl (cA 13, 10, .inr (.inr (.inr (.inr (k_F [q21, q26, q31, q36, q41, q46, q51, q56, q61, q66])))))), (q21, .inr (0, [.int 0, .int 0, .int 0, .int 0, .int 0, .int 0, .int 0, .int 0, .ref q22, .ref q23, .ref q24, .ref q25])), (q22, n_i cA 54), (q23, n_i cA 5), (q24, n_i cA 9), (q25, n_i cA 240), (q26, .inr (0, [.int 0, .int 0, .int 0, .int 0, .int 0, .int 0, .int 0, .int 0, .ref q27, .ref q28, .ref q29, .ref q30])), (q27, n_i cA 54), (q28, n_i cA 5), (q29, n_i cA 9), (q30, n_i cA 240), (q31, .inr (0, [.int 0, .int 0, .int 0, .int 0, .int 0, .int 0, .int 0, .int 0, .ref q32, .ref q33, .ref q34, .ref q35])), (q32, n_i cA 54), (q33, n_i cA 5), (q34, n_i cA 9), (q35, n_i cA 240), (q36, .inr (0, [.int 0, .int 0, .int 0, .int 0, .int 0, .int 0, .int 0, .int 0, .ref q37, .ref q38, .ref q39, .ref q40])), (q37, n_i cA 54), (q38, n_i cA 5), (q39, n_i cA 9), (q40, n_i cA 240), (q41, .inr (0, [.int 0, .int 0, .int 0, .int 0, .int 0, .int 0, .int 0, .int 0, .ref q42, .ref q43, .ref q44, .ref q45])), (q42, n_i cA 54), (q43, n_i cA 5), (q44, n_i cA 9), (q45, n_i cA 240), (q46, .inr (0, [.int 0, .int 0, .int 0, .int 0, .int 0, .int 0, .int 0, .int 0, .ref q47, .ref q48, .ref q49, .ref q50])), (q47, n_i cA 54), (q48, n_i cA 5), (q49, n_i cA 9), (q50, n_i cA 240), (q51, .inr (0, [.int 0, .int 0, .int 0, .int 0, .int 0, .int 0, .int 0, .int 0, .ref q52, .ref q53, .ref q54, .ref q55])), (q52, n_i cA 54), (q53, n_i cA 5), (q54, n_i cA 9), (q55, n_i cA 240), (q56, .inr (0, [.int 0, .int 0, .int 0, .int 0, .int 0, .int 0, .int 0, .int 0, .ref q57, .ref q58, .ref q59, .ref q60])), (q57, n_i cA 54), (q58, n_i cA 5), (q59, n_i cA 9), (q60, n_i cA 240), (q61, .inr (0, [.int 0, .int 0, .int 0, .int 0, .int 0, .int 0, .int 0, .int 0, .ref q62, .ref q63, .ref q64, .ref q65])), (q62, n_i cA 54), (q63, n_i cA 5), (q64, n_i cA 9), (q65, n_i cA 240), (q66, .inr (0, [.int 0, .int 0, .int 0, .int 0, .int 0, .int 0, .int 0, .int 0, .ref q67, .ref q68, .ref q69, .ref q70])), (q67, n_i cA 54), (q68, n_i cA 5), (q69, n_i cA 9), (q70, n_i cA 240), (q71, .inr (1, [.ref q72, .ref q75, .ref q76, .ref q77, .ref q78, .int 0, .int 0, .int 0])), (q72, .inr (2, [.ref q73, .ref q74, .int 0, .int 0, .int 0])), (q73, n_i cA 216), (q74, n_i cA 216), (q75, n_l cA 150), (q76, n_l cA 6), (q77, n_i cA 6), (q78, n_l cA 25), (q79, .inr (3, [.ref q80, .ref q81, .int 0, .long 0])), (q80, n_i cA 3), (q81, n_i cA 9), (q82, .inr (5, [.long 0])), (q83, .inr (8, [.int 0, .int 0, .int 0, .int (-1), .ref q84, .int 0, .int 0, .ref q85, .ref q86, .ref q87, .ref q88, .int 0, .int 0, .int 0, .int 0, .int 0, .int 0, .int 0, .int 0, .int 0, .int 0, .int 0, .ref q89, .ref q90, .ref q91, .ref q92, .long 0, .int 0, .ref q93, .ref q94, .long 0, .long 0, .ref q95, .int 0, .ref q96])), (q84, n_i cA 500), (q85, n_i cA 396), (q86, n_i cA 396), (q87, n_i cA 54), (q88, n_i cA 54), (q89, n_l cA 24), (q90, n_l cA 24), (q91, n_i cA 24), (q92, n_i cA 6), (q93, n_i cA 9), (q94, n_i cA 9), (q95, n_i cA 396), (q96, n_i cA 3960), (q97, n_l cA 1)]
theorem st_F {ad : Nat → Nat} {a0 a1 a2 a3 a4 a5 a6 a7 a8 a9 : Nat} (h0 : ad 33 = a0) (h1 : ad 38 = a1) (h2 : ad 43 = a2) (h3 : ad 48 = a3) (h4 : ad 53 = a4) (h5 : ad 58 = a5) (h6 : ad 63 = a6) (h7 : ad 68 = a7) (h8 : ad 73 = a8) (h9 : ad 78 = a9) : k_F [a0, a1, a2, a3, a4, a5, a6, a7, a8, a9] = fun j => (gR 10 j).map ad := by
  funext j
  rcases Nat.lt_or_ge j 10 with h | h
  · match j, h with
    | 0, _ => show some a0 = some (ad 33); rw [h0]
    | 1, _ => show some a1 = some (ad 38); rw [h1]
    | 2, _ => show some a2 = some (ad 43); rw [h2]
    | 3, _ => show some a3 = some (ad 48); rw [h3]
    | 4, _ => show some a4 = some (ad 53); rw [h4]
    | 5, _ => show some a5 = some (ad 58); rw [h5]
    | 6, _ => show some a6 = some (ad 63); rw [h6]
    | 7, _ => show some a7 = some (ad 68); rw [h7]
    | 8, _ => show some a8 = some (ad 73); rw [h8]
    | 9, _ => show some a9 = some (ad 78); rw [h9]
    | j + 10, h => omega
  · obtain ⟨i, rfl⟩ : ∃ i, j = i + 10 := ⟨j - 10, by omega⟩
    have e1 : gR 10 (i + 10) = none := rfl
    rw [e1]
    simp [k_F, va_up]
def e_pos : List Nat := [0, 1, 2, 3, 4, 5, 6, 7, 8, 19, 20, 71, 72, 73, 74, 75, 76, 77, 78, 79, 80, 81, 82, 9, 10, 11, 12, 13, 14, 15, 16, 17, 18, 21, 22, 23, 24, 25, 26, 27, 28, 29, 30, 31, 32, 33, 34, 35, 36, 37, 38, 39, 40, 41, 42, 43, 44, 45, 46, 47, 48, 49, 50, 51, 52, 53, 54, 55, 56, 57, 58, 59, 60, 61, 62, 63, 64, 65, 66, 67, 68, 69, 70, 83, 84, 85, 86, 87, 88, 89, 90, 91, 92, 93, 94, 95, 96, 97]
set_option maxRecDepth 100000 in
set_option maxHeartbeats 8000000 in
theorem st_world (adK adV : Nat → Nat) (a3 b : Nat) (cA : Nat → ClassId) (q0 q1 q2 q3 q4 q5 q6 q7 q8 q9 q10 q11 q12 q13 q14 q15 q16 q17 q18 q19 q20 q21 q22 q23 q24 q25 q26 q27 q28 q29 q30 q31 q32 q33 q34 q35 q36 q37 q38 q39 q40 q41 q42 q43 q44 q45 q46 q47 q48 q49 q50 q51 q52 q53 q54 q55 q56 q57 q58 q59 q60 q61 q62 q63 q64 q65 q66 q67 q68 q69 q70 q71 q72 q73 q74 q75 q76 q77 q78 q79 q80 q81 q82 q83 q84 q85 q86 q87 q88 q89 q90 q91 q92 q93 q94 q95 q96 q97 : Nat) : ∀ k, k < 98 → (e_l98 cA q0 q1 q2 q3 q4 q5 q6 q7 q8 q9 q10 q11 q12 q13 q14 q15 q16 q17 q18 q19 q20 q21 q22 q23 q24 q25 q26 q27 q28 q29 q30 q31 q32 q33 q34 q35 q36 q37 q38 q39 q40 q41 q42 q43 q44 q45 q46 q47 q48 q49 q50 q51 q52 q53 q54 q55 q56 q57 q58 q59 q60 q61 q62 q63 q64 q65 q66 q67 q68 q69 q70 q71 q72 q73 q74 q75 q76 q77 q78 q79 q80 q81 q82 q83 q84 q85 q86 q87 q88 q89 q90 q91 q92 q93 q94 q95 q96 q97)[e_pos.getD k 0]? = some (e_adf [q0, q1, q2, q3, q4, q5, q6, q7, q8, q19, q20, q71, q72, q73, q74, q75, q76, q77, q78, q79, q80, q81, q82, q9, q10, q11, q12, q13, q14, q15, q16, q17, q18, q21, q22, q23, q24, q25, q26, q27, q28, q29, q30, q31, q32, q33, q34, q35, q36, q37, q38, q39, q40, q41, q42, q43, q44, q45, q46, q47, q48, q49, q50, q51, q52, q53, q54, q55, q56, q57, q58, q59, q60, q61, q62, q63, q64, q65, q66, q67, q68, q69, q70, q83, q84, q85, q86, q87, q88, q89, q90, q91, q92, q93, q94, q95, q96, q97] adK adV a3 b k, e_cell (e_adf [q0, q1, q2, q3, q4, q5, q6, q7, q8, q19, q20, q71, q72, q73, q74, q75, q76, q77, q78, q79, q80, q81, q82, q9, q10, q11, q12, q13, q14, q15, q16, q17, q18, q21, q22, q23, q24, q25, q26, q27, q28, q29, q30, q31, q32, q33, q34, q35, q36, q37, q38, q39, q40, q41, q42, q43, q44, q45, q46, q47, q48, q49, q50, q51, q52, q53, q54, q55, q56, q57, q58, q59, q60, q61, q62, q63, q64, q65, q66, q67, q68, q69, q70, q83, q84, q85, q86, q87, q88, q89, q90, q91, q92, q93, q94, q95, q96, q97] adK adV a3 b) cA I0 L0 k) := by
  intro k hk
  match k, hk with
  | 0, _ => rw [e_cell_o7 (by decide)]; rfl
  | 1, _ => rw [e_cell_o6 (by decide)]; rfl
  | 2, _ => rfl
  | 3, _ => rfl
  | 4, _ => rfl
  | 5, _ => rfl
  | 6, _ => rfl
  | 7, _ => rfl
  | 8, _ => rfl
  | 9, _ => rw [e_cell_o4 (by decide)]; rfl
  | 10, _ => exact congrArg (fun F => some (q20, (Sum.inl (cA 13, 10, Sum.inr (Sum.inr (Sum.inr (Sum.inr F)))) : va_E))) (st_F (ad := e_adf [q0, q1, q2, q3, q4, q5, q6, q7, q8, q19, q20, q71, q72, q73, q74, q75, q76, q77, q78, q79, q80, q81, q82, q9, q10, q11, q12, q13, q14, q15, q16, q17, q18, q21, q22, q23, q24, q25, q26, q27, q28, q29, q30, q31, q32, q33, q34, q35, q36, q37, q38, q39, q40, q41, q42, q43, q44, q45, q46, q47, q48, q49, q50, q51, q52, q53, q54, q55, q56, q57, q58, q59, q60, q61, q62, q63, q64, q65, q66, q67, q68, q69, q70, q83, q84, q85, q86, q87, q88, q89, q90, q91, q92, q93, q94, q95, q96, q97] adK adV a3 b) rfl rfl rfl rfl rfl rfl rfl rfl rfl rfl)
  | 11, _ => rw [e_cell_o1 (by decide)]; rfl
  | 12, _ => rw [e_cell_o2 (by decide)]; rfl
  | 13, _ => rfl
  | 14, _ => rfl
  | 15, _ => rfl
  | 16, _ => rfl
  | 17, _ => rfl
  | 18, _ => rfl
  | 19, _ => rw [e_cell_o3 (by decide)]; rfl
  | 20, _ => rfl
  | 21, _ => rfl
  | 22, _ => rw [e_cell_o5 (by decide)]; rfl
  | 23, _ => rw [e_cell_o0 (by decide)]; rfl
  | 24, _ => rfl
  | 25, _ => rfl
  | 26, _ => rfl
  | 27, _ => rfl
  | 28, _ => rw [e_cell_o0 (by decide)]; rfl
  | 29, _ => rfl
  | 30, _ => rfl
  | 31, _ => rfl
  | 32, _ => rfl
  | 33, _ => rw [e_cell_o0 (by decide)]; rfl
  | 34, _ => rfl
  | 35, _ => rfl
  | 36, _ => rfl
  | 37, _ => rfl
  | 38, _ => rw [e_cell_o0 (by decide)]; rfl
  | 39, _ => rfl
  | 40, _ => rfl
  | 41, _ => rfl
  | 42, _ => rfl
  | 43, _ => rw [e_cell_o0 (by decide)]; rfl
  | 44, _ => rfl
  | 45, _ => rfl
  | 46, _ => rfl
  | 47, _ => rfl
  | 48, _ => rw [e_cell_o0 (by decide)]; rfl
  | 49, _ => rfl
  | 50, _ => rfl
  | 51, _ => rfl
  | 52, _ => rfl
  | 53, _ => rw [e_cell_o0 (by decide)]; rfl
  | 54, _ => rfl
  | 55, _ => rfl
  | 56, _ => rfl
  | 57, _ => rfl
  | 58, _ => rw [e_cell_o0 (by decide)]; rfl
  | 59, _ => rfl
  | 60, _ => rfl
  | 61, _ => rfl
  | 62, _ => rfl
  | 63, _ => rw [e_cell_o0 (by decide)]; rfl
  | 64, _ => rfl
  | 65, _ => rfl
  | 66, _ => rfl
  | 67, _ => rfl
  | 68, _ => rw [e_cell_o0 (by decide)]; rfl
  | 69, _ => rfl
  | 70, _ => rfl
  | 71, _ => rfl
  | 72, _ => rfl
  | 73, _ => rw [e_cell_o0 (by decide)]; rfl
  | 74, _ => rfl
  | 75, _ => rfl
  | 76, _ => rfl
  | 77, _ => rfl
  | 78, _ => rw [e_cell_o0 (by decide)]; rfl
  | 79, _ => rfl
  | 80, _ => rfl
  | 81, _ => rfl
  | 82, _ => rfl
  | 83, _ => rw [e_cell_o8 (by decide)]; rfl
  | 84, _ => rfl
  | 85, _ => rfl
  | 86, _ => rfl
  | 87, _ => rfl
  | 88, _ => rfl
  | 89, _ => rfl
  | 90, _ => rfl
  | 91, _ => rfl
  | 92, _ => rfl
  | 93, _ => rfl
  | 94, _ => rfl
  | 95, _ => rfl
  | 96, _ => rfl
  | 97, _ => rfl
  | k + 98, hk => exact absurd hk (by omega)
