/-! THE CONSTRUCTORS: a world of cells at real addresses, some of which (ws0) are somebody else's, the rest (l) told one by one -/
def ZK (X : e_X) (Q : State → Prop) (ws0 : va_W) (k1 k2 : Nat) (pc : Nat) (lv : List (Nat × Value)) (st : List Value) (l : va_W) : Prop := match X with
  | (p, la, e, R, s, m, args, below, meth, c, nL, _, base, D, _, _, _, _) =>
    ∀ (H : Heap) (locs : List Loc) (ls : Array Slot), va_P D vwCl (ws0 ++ l) H → va_D (e_A base) (ws0 ++ l) → va_S (e_A base) s.heap H locs → lv_has ls nL lv →
      W p la e R s m args below meth c H locs k1 k2 Q (F0 m pc ls st)
def e_CR (X : e_X) (mc ms : Nat) : Prop := match X with
  | (_, _, _, R, _, _, _, _, _, _, _, _, _, _, _, _, _, _) => mc ≤ R.cells ∧ ms ≤ R.slots
def e_CI (X : e_X) : Prop := match X with
  | (_, _, _, _, _, _, _, _, meth, _, _, _, _, _, _, _, _, _) => meth.name = "<init>"
abbrev eC (X : e_X) (t : Nat) : ClassId := X.2.2.2.2.2.2.2.2.2.2.2.2.2.2.1 t
abbrev n_i (X : Nat → ClassId) (N : Nat) : va_E := .inl (X 9, N, .inl (fun _ => 0))
abbrev n_b (X : Nat → ClassId) (N : Nat) : va_E := .inl (X 10, N, .inl (fun _ => 0))
abbrev n_z (X : Nat → ClassId) (N : Nat) : va_E := .inl (X 11, N, .inl (fun _ => 0))
abbrev n_l (X : Nat → ClassId) (N : Nat) : va_E := .inl (X 12, N, .inr (.inl (fun _ => 0)))
def k_F (gs : List Nat) : Nat → Option Nat := (gs.zipIdx).foldl (fun f p => va_up f p.2 (some p.1)) (fun _ => none)
def k_U (xs : List Int32) : Nat → Int32 := (xs.zipIdx).foldl (fun f p => upd f p.2 p.1) (fun _ => 0)
theorem k_look {ws0 l : va_W} {k : Nat} : (ws0 ++ l)[ws0.length + k]? = l[k]? := by
  rw [List.getElem?_append_right (by omega), Nat.add_sub_cancel_left]
theorem k_set {ws0 l : va_W} {k : Nat} {x : Nat × va_E} : (ws0 ++ l).set (ws0.length + k) x = ws0 ++ l.set k x := by
  rw [List.set_append_right _ _ (by omega), Nat.add_sub_cancel_left]
section KZ
variable {X : e_X} {cc : ByteArray} {own : String} {nl d nW : Nat} {rt : Option FieldType} {Q : State → Prop} {ws0 l : va_W} {k1 k2 pc : Nat} {lv : List (Nat × Value)} {st : List Value}
theorem k_aload_n (hC : e_C X cc own nl rt d nW) {f : Fin 4} {i x : Nat} (hd : decode cc pc = .ok (.aload_n f, 1)) (hi : (f : Nat) = i) (j : Nat) (hl0 : lv[j]? = some (i, .ref x)) (k : ZK X Q ws0 k1 k2 (pc + 1) lv (.ref x :: st) l) : ZK X Q ws0 k1 k2 pc lv st l := by
  obtain ⟨p, la, e, R, s, m, args, below, meth, c, nL, ad, base, D, cA, k1', k2', n'⟩ := X
  obtain ⟨hx, hb, hml, hown, hts, hK, hbase, hR, hk, hinj, had, hlk, hRO, rfl, rfl, hrt⟩ := hC
  intro H locs ls hP hD hS hl
  exact lv_aload_n hx hb hd hi (lv_at hl j hl0) (k H locs ls hP hD hS hl)
theorem k_iload_n (hC : e_C X cc own nl rt d nW) {f : Fin 4} {i : Nat} {x : Int32} (hd : decode cc pc = .ok (.iload_n f, 1)) (hi : (f : Nat) = i) (j : Nat) (hl0 : lv[j]? = some (i, .int x)) (k : ZK X Q ws0 k1 k2 (pc + 1) lv (.int x :: st) l) : ZK X Q ws0 k1 k2 pc lv st l := by
  obtain ⟨p, la, e, R, s, m, args, below, meth, c, nL, ad, base, D, cA, k1', k2', n'⟩ := X
  obtain ⟨hx, hb, hml, hown, hts, hK, hbase, hR, hk, hinj, had, hlk, hRO, rfl, rfl, hrt⟩ := hC
  intro H locs ls hP hD hS hl
  exact lv_iload_n hx hb hd hi (lv_at hl j hl0) (k H locs ls hP hD hS hl)
theorem k_istore_n (hC : e_C X cc own nl rt d nW) {f : Fin 4} {i : Nat} {x : Int32} {lv' : List (Nat × Value)} (hd : decode cc pc = .ok (.istore_n f, 1)) (hi : (f : Nat) = i) (hn : i < nl) (hl0 : (i, Value.int x) :: lv.filter (fun q => !(q.1 == i) && !(q.1 + 1 == i && q.2.category == 2)) = lv') (k : ZK X Q ws0 k1 k2 (pc + 1) lv' st l) : ZK X Q ws0 k1 k2 pc lv (.int x :: st) l := by
  obtain ⟨p, la, e, R, s, m, args, below, meth, c, nL, ad, base, D, cA, k1', k2', n'⟩ := X
  obtain ⟨hx, hb, hml, hown, hts, hK, hbase, hR, hk, hinj, had, hlk, hRO, rfl, rfl, hrt⟩ := hC
  intro H locs ls hP hD hS hl
  exact lv_istore_n hx hb hd hi hl hn hl0 (fun ls' hl' => k H locs ls' hP hD hS hl')
theorem k_iinc (hC : e_C X cc own nl rt d nW) {i : Nat} {n : Int} {x v : Int32} {lv' : List (Nat × Value)} (hd : decode cc pc = .ok (.iinc i n, 3)) (j : Nat) (hj : lv[j]? = some (i, .int x)) (hv : x + Int32.ofInt n = v) (hn : i < nl) (hl0 : (i, Value.int v) :: lv.filter (fun q => !(q.1 == i) && !(q.1 + 1 == i && q.2.category == 2)) = lv') (k : ZK X Q ws0 k1 k2 (pc + 3) lv' st l) : ZK X Q ws0 k1 k2 pc lv st l := by
  obtain ⟨p, la, e, R, s, m, args, below, meth, c, nL, ad, base, D, cA, k1', k2', n'⟩ := X
  obtain ⟨hx, hb, hml, hown, hts, hK, hbase, hR, hk, hinj, had, hlk, hRO, rfl, rfl, hrt⟩ := hC
  intro H locs ls hP hD hS hl
  exact lv_iinc hx hb hd hl hj hv hn hl0 (fun ls' hl' => k H locs ls' hP hD hS hl')
theorem k_icmp_ge (hC : e_C X cc own nl rt d nW) {x y : Int32} {off : Int} {tgt : Nat} (hd : decode cc pc = .ok (.if_icmp .ge off, 3)) (ht : (pc : Int) + off = (tgt : Int)) (kt : x ≥ y → ZK X Q ws0 k1 k2 tgt lv st l) (kf : ¬ (x ≥ y) → ZK X Q ws0 k1 k2 (pc + 3) lv st l) : ZK X Q ws0 k1 k2 pc lv (.int y :: .int x :: st) l := by
  obtain ⟨p, la, e, R, s, m, args, below, meth, c, nL, ad, base, D, cA, k1', k2', n'⟩ := X
  obtain ⟨hx, hb, hml, hown, hts, hK, hbase, hR, hk, hinj, had, hlk, hRO, rfl, rfl, hrt⟩ := hC
  intro H locs ls hP hD hS hl
  exact lv_icmp_ge hx hb hd ht (fun h => kt h H locs ls hP hD hS hl) (fun h => kf h H locs ls hP hD hS hl)
theorem k_goto (hC : e_C X cc own nl rt d nW) {off : Int} {tgt : Nat} (hd : decode cc pc = .ok (.goto off, 3)) (ht : (pc : Int) + off = (tgt : Int)) (k : ZK X Q ws0 k1 k2 tgt lv st l) : ZK X Q ws0 k1 k2 pc lv st l := by
  obtain ⟨p, la, e, R, s, m, args, below, meth, c, nL, ad, base, D, cA, k1', k2', n'⟩ := X
  obtain ⟨hx, hb, hml, hown, hts, hK, hbase, hR, hk, hinj, had, hlk, hRO, rfl, rfl, hrt⟩ := hC
  intro H locs ls hP hD hS hl
  exact lv_goto hx hb hd ht (k H locs ls hP hD hS hl)
theorem k_iconst (hC : e_C X cc own nl rt d nW) {n : Int} {v : Int32} (hv : Int32.ofInt n = v) (hd : decode cc pc = .ok (.iconst n, 1)) (k : ZK X Q ws0 k1 k2 (pc + 1) lv (.int v :: st) l) : ZK X Q ws0 k1 k2 pc lv st l := by
  obtain ⟨p, la, e, R, s, m, args, below, meth, c, nL, ad, base, D, cA, k1', k2', n'⟩ := X
  obtain ⟨hx, hb, hml, hown, hts, hK, hbase, hR, hk, hinj, had, hlk, hRO, rfl, rfl, hrt⟩ := hC
  intro H locs ls hP hD hS hl
  exact lv_iconst hx hb hd hv (k H locs ls hP hD hS hl)
theorem k_bipush (hC : e_C X cc own nl rt d nW) {n : Int} {v : Int32} (hv : (Int8.ofInt n).toInt32 = v) (hd : decode cc pc = .ok (.bipush n, 2)) (k : ZK X Q ws0 k1 k2 (pc + 2) lv (.int v :: st) l) : ZK X Q ws0 k1 k2 pc lv st l := by
  obtain ⟨p, la, e, R, s, m, args, below, meth, c, nL, ad, base, D, cA, k1', k2', n'⟩ := X
  obtain ⟨hx, hb, hml, hown, hts, hK, hbase, hR, hk, hinj, had, hlk, hRO, rfl, rfl, hrt⟩ := hC
  intro H locs ls hP hD hS hl
  exact lv_bipush hx hb hd hv (k H locs ls hP hD hS hl)
theorem k_sipush (hC : e_C X cc own nl rt d nW) {n : Int} {v : Int32} (hv : (Int16.ofInt n).toInt32 = v) (hd : decode cc pc = .ok (.sipush n, 3)) (k : ZK X Q ws0 k1 k2 (pc + 3) lv (.int v :: st) l) : ZK X Q ws0 k1 k2 pc lv st l := by
  obtain ⟨p, la, e, R, s, m, args, below, meth, c, nL, ad, base, D, cA, k1', k2', n'⟩ := X
  obtain ⟨hx, hb, hml, hown, hts, hK, hbase, hR, hk, hinj, had, hlk, hRO, rfl, rfl, hrt⟩ := hC
  intro H locs ls hP hD hS hl
  exact lv_sipush hx hb hd hv (k H locs ls hP hD hS hl)
theorem k_dup (hC : e_C X cc own nl rt d nW) {va : Value} (hva : va.category = 1) (hd : decode cc pc = .ok (.dup, 1)) (k : ZK X Q ws0 k1 k2 (pc + 1) lv (va :: va :: st) l) : ZK X Q ws0 k1 k2 pc lv (va :: st) l := by
  obtain ⟨p, la, e, R, s, m, args, below, meth, c, nL, ad, base, D, cA, k1', k2', n'⟩ := X
  obtain ⟨hx, hb, hml, hown, hts, hK, hbase, hR, hk, hinj, had, hlk, hRO, rfl, rfl, hrt⟩ := hC
  intro H locs ls hP hD hS hl
  exact lv_dup hx hb hd hva (k H locs ls hP hD hS hl)
theorem k_ldcs (hC : e_C X cc own nl rt d nW) {index i sid : Nat} {tx : String} (hi : e_str[i]? = some (own, index, tx, sid)) (hd : decode cc pc = .ok (.ldc index, 2)) (k : ZK X Q ws0 k1 k2 (pc + 2) lv (.ref (X.2.2.2.2.2.2.2.2.2.2.2.1 (1000 + sid)) :: st) l) : ZK X Q ws0 k1 k2 pc lv st l := by
  obtain ⟨p, la, e, R, s, m, args, below, meth, c, nL, ad, base, D, cA, k1', k2', n'⟩ := X
  obtain ⟨hx, hb, hml, hown, hts, hK, hbase, hR, hk, hinj, had, hlk, hRO, rfl, rfl, hrt⟩ := hC
  intro H locs ls hP hD hS hl
  exact va_ldcS hx hb hown (hRO.2.1 i _ hi) hd (k H locs ls hP hD hS hl)
theorem k_objInit (hC : e_C X cc own nl rt d nW) {idx a : Nat} (h1 : Cond.methodLink own idx Lib.objectInit ∈ e_tbl) (h2 : Cond.instanceMethod Lib.objectInit ∈ e_tbl) (h3 : Cond.code Lib.objectInit ⟨#[0xb1]⟩ 1 none ∈ e_tbl) (hroom : (st.map fun v => v.category).sum ≤ 8) (hd : decode cc pc = .ok (.invokespecial idx, 3)) (k : ZK X Q ws0 k1 k2 (pc + 3) lv st l) : ZK X Q ws0 k1 k2 pc lv (.ref a :: st) l := by
  obtain ⟨p, la, e, R, s, m, args, below, meth, c, nL, ad, base, D, cA, k1', k2', n'⟩ := X
  obtain ⟨hx, hb, hml, hown, hts, hK, hbase, hR, hk, hinj, had, hlk, hRO, rfl, rfl, hrt⟩ := hC
  intro H locs ls hP hD hS hl
  have hq := lv_room (pc := pc) (ls := ls) (m := m) (rest := Value.ref a :: st) hroom
  exact W.objInit hx hb hown (hts _ h1) (hts _ h2) (hts _ h3) rfl (hl.1.trans hml.symm) rfl hd (by omega) (by omega) (k H locs ls hP hD hS hl)
theorem k_newa (hC : e_C X cc own nl rt d nW) {mc ms t : Nat} (hR2 : e_CR X mc ms) {atype : ArrayType} {ty : FieldType} (hw : Cond.arrayClass ty ∈ e_tbl) (hty : newarray.typeOf atype = ty) (hk9 : ∀ cA : Nat → ClassId, (e_tys cA)[t]? = some (cA (9 + t), ty)) {n : Int32} {N : Nat} {a0 : vp_A} (ha : ∀ cA : ClassId, vp_cell cA a0 = arrV cA N (fun _ => defaultValue ty)) (hn : ¬ n < 0) (hN : n.toNatClampNeg = N) (hbytes : N * componentBytes ty ≤ 536870912) (hc : k1 + 1 ≤ mc) (hs : k2 + N ≤ ms) (hd : decode cc pc = .ok (.newarray atype, 2))
    (k : ∀ q : Nat, ZK X Q ws0 (k1 + 1) (k2 + N) (pc + 2) lv (.ref q :: st) (l ++ [(q, .inl (X.2.2.2.2.2.2.2.2.2.2.2.2.2.2.1 (9 + t), a0))])) : ZK X Q ws0 k1 k2 pc lv (.int n :: st) l := by
  subst hty
  obtain ⟨p, la, e, R, s, m, args, below, meth, c, nL, ad, base, D, cA, k1', k2', n'⟩ := X
  obtain ⟨hx, hb, hml, hown, hts, hK, hbase, hR, hk, hinj, had, hlk, hRO, rfl, rfl, hrt⟩ := hC
  intro H locs ls hP hD hS hl
  obtain ⟨hRc, hRs⟩ := hR2
  refine va_newaK hx hb (hts _ hw) rfl hd rfl hn hN hbytes (Nat.le_trans hc hRc) (Nat.le_trans hs hRs) rfl fun H1 cA' e1 z1 o1 hAr hNm => ?_
  have hcA : cA' = cA (9 + t) := by
    have h0 := (hK.2 t _ (hk9 cA)).2
    have h1 : s.vm.findClass ("[" ++ (newarray.typeOf atype).toString) = some (cA (9 + t)) := by cases atype <;> exact h0
    rw [hNm] at h1
    exact Option.some.inj h1
  subst hcA
  have hkk : ∀ (k : Nat) (x : Nat × va_E), (ws0 ++ l)[k]? = some x → H1[x.1]? = H[x.1]? := fun k x hx => o1 x.1 ((hP k x hx).lt)
  have hA : ∀ q, s.heap.size ≤ q → e_A base q := fun q hq => Nat.le_trans hbase hq
  refine k H.size H1 locs ls ?_ ?_ ⟨Nat.le_trans hS.1 (by omega), fun x h1 h2 => (o1 x (Nat.lt_of_lt_of_le h1 hS.1)).trans (hS.2.1 x h1 h2), hS.2.2⟩ hl
  · rw [← List.append_assoc]
    refine (hP.kept hkk).app (fun k x hx => ?_)
    have hz : k < 1 := (List.getElem?_eq_some_iff.mp hx).1
    rw [show k = 0 by omega] at hx
    cases hx
    show H1[H.size]? = some (vp_cell _ _)
    rw [ha]
    exact e1
  · rw [← List.append_assoc]
    exact hD.push hP rfl (hA _ hS.1)
theorem k_new (hC : e_C X cc own nl rt d nW) {mc ms ci index : Nat} (hR2 : e_CR X mc ms) (hci : ci < 9) (h1 : Cond.classLink own index (e_cl ci).1 ∈ e_tbl) (h2 : Cond.instantiable (e_cl ci).1 (e_cl ci).2.2 ∈ e_tbl) (h3 : Cond.initialized (e_cl ci).1 ∈ e_tbl) {fs : List Value} (hfs : ∀ j, j < (e_cl ci).2.2 → ∀ ty, parseFieldDescriptor ((e_cl ci).2.1 j).2.2.1 = some ty → defaultValue ty = vp_V fs j) (hc : k1 + 1 ≤ mc) (hs : k2 + (e_cl ci).2.2 ≤ ms) (hd : decode cc pc = .ok (.new index, 3))
    (k : ∀ q : Nat, ZK X Q ws0 (k1 + 1) (k2 + (e_cl ci).2.2) (pc + 3) lv (.ref q :: st) (l ++ [(q, .inr (ci, fs))])) : ZK X Q ws0 k1 k2 pc lv st l := by
  obtain ⟨p, la, e, R, s, m, args, below, meth, c, nL, ad, base, D, cA, k1', k2', n'⟩ := X
  obtain ⟨hx, hb, hml, hown, hts, hK, hbase, hR, hk, hinj, had, hlk, hRO, rfl, rfl, hrt⟩ := hC
  intro H locs ls hP hD hS hl
  obtain ⟨hRc, hRs⟩ := hR2
  obtain ⟨ty0, hty, hnm⟩ := e_tyok hci
  have hA : ∀ q, s.heap.size ≤ q → e_A base q := fun q hq => Nat.le_trans hbase hq
  refine va_new hx hb hts (e_hin hci) ty0 hty hown (hts _ h1) (hts _ h2) (hts _ h3) hK hP hD hS hA (e_cl_at hci) (fun j hj => hfs j hj _ (hty j hj)) (Nat.le_trans hc hRc) (Nat.le_trans hs hRs) hd (fun q H1 hP1 hD1 hS1 => ?_)
  rw [List.append_assoc] at hP1 hD1
  exact k q H1 locs ls hP1 hD1 hS1 hl
theorem k_putF (hC : e_C X cc own nl rt d nW) {ci index i a p0 : Nat} {desc : String} {fs : List Value} {l' : va_W} {v : Value} {ty : FieldType} (hnm0 : e_CI X) (hf : e_fk own index ci i desc) (hfin : ((e_cl ci).2.1 i).2.2.2 = true) (hdecl : ((e_cl ci).2.1 i).1 = own) (he : l[p0]? = some (a, .inr (ci, fs))) (hty0 : parseFieldDescriptor desc = some ty) (hn : narrow ty v = v) (hfit : fits ty v = true) (hlen : i < fs.length) (hl' : l.set p0 (a, .inr (ci, fs.set i v)) = l') (hd : decode cc pc = .ok (.putfield index, 3)) (k : ZK X Q ws0 k1 k2 (pc + 3) lv st l') : ZK X Q ws0 k1 k2 pc lv (v :: .ref a :: st) l := by
  obtain ⟨p, la, e, R, s, m, args, below, meth, c, nL, ad, base, D, cA, k1', k2', n'⟩ := X
  obtain ⟨hx, hb, hml, hown, hts, hK, hbase, hR, hk, hinj, had, hlk, hRO, rfl, rfl, hrt⟩ := hC
  intro H locs ls hP hD hS hl
  obtain ⟨hf1, hf2, hf3, hf4⟩ := hf
  obtain ⟨ty0, hty, hnm⟩ := e_tyok hf1
  refine va_putF hx hb hts (e_hin hf1) ty0 hty hnm hown hK hP hD hS (ws0.length + p0) (k_look.trans he) (e_cl_at hf1) i hf2 (hts _ hf4) (fun _ h => h) hfin hnm0 hdecl (ty := ty) (v := v) (by rw [hf3]; exact hty0) hn hfit hlen hd (fun H1 locs1 hP1 hD1 hS1 => ?_)
  rw [k_set, hl'] at hP1 hD1
  exact k H1 locs1 ls hP1 hD1 hS1 hl
theorem k_put (hC : e_C X cc own nl rt d nW) {ci index i a p0 : Nat} {desc : String} {fs : List Value} {l' : va_W} {v : Value} {ty : FieldType} (hf : e_fk own index ci i desc) (hfin : ((e_cl ci).2.1 i).2.2.2 = false) (he : l[p0]? = some (a, .inr (ci, fs))) (hty0 : parseFieldDescriptor desc = some ty) (hn : narrow ty v = v) (hfit : fits ty v = true) (hlen : i < fs.length) (hl' : l.set p0 (a, .inr (ci, fs.set i v)) = l') (hd : decode cc pc = .ok (.putfield index, 3)) (k : ZK X Q ws0 k1 k2 (pc + 3) lv st l') : ZK X Q ws0 k1 k2 pc lv (v :: .ref a :: st) l := by
  obtain ⟨p, la, e, R, s, m, args, below, meth, c, nL, ad, base, D, cA, k1', k2', n'⟩ := X
  obtain ⟨hx, hb, hml, hown, hts, hK, hbase, hR, hk, hinj, had, hlk, hRO, rfl, rfl, hrt⟩ := hC
  intro H locs ls hP hD hS hl
  obtain ⟨hf1, hf2, hf3, hf4⟩ := hf
  obtain ⟨ty0, hty, hnm⟩ := e_tyok hf1
  refine va_put hx hb hts (e_hin hf1) ty0 hty hnm hown hK hP hD hS (ws0.length + p0) (k_look.trans he) (e_cl_at hf1) i hf2 (hts _ hf4) (fun _ h => h) hfin (ty := ty) (v := v) (by rw [hf3]; exact hty0) hn hfit hlen hd (fun H1 locs1 hP1 hD1 hS1 => ?_)
  rw [k_set, hl'] at hP1 hD1
  exact k H1 locs1 ls hP1 hD1 hS1 hl
theorem k_getF (hC : e_C X cc own nl rt d nW) {ci index i a p0 : Nat} {desc : String} {fs : List Value} {v : Value} (hf : e_fk own index ci i desc) (he : l[p0]? = some (a, .inr (ci, fs))) (hv : fs[i]? = some v) (hd : decode cc pc = .ok (.getfield index, 3)) (k : ZK X Q ws0 k1 k2 (pc + 3) lv (v :: st) l) : ZK X Q ws0 k1 k2 pc lv (.ref a :: st) l := by
  obtain ⟨p, la, e, R, s, m, args, below, meth, c, nL, ad, base, D, cA, k1', k2', n'⟩ := X
  obtain ⟨hx, hb, hml, hown, hts, hK, hbase, hR, hk, hinj, had, hlk, hRO, rfl, rfl, hrt⟩ := hC
  intro H locs ls hP hD hS hl
  obtain ⟨hf1, hf2, hf3, hf4⟩ := hf
  exact va_get hx hb hts (e_hin hf1) hown hK hP (ws0.length + p0) (k_look.trans he) (e_cl_at hf1) i hf2 (hts _ hf4) (fun _ h => h) hv hd (k H locs ls hP hD hS hl)
theorem k_iast (hC : e_C X cc own nl rt d nW) {a p0 N jn : Nat} {f : Nat → Int32} {j x : Int32} {l' : va_W} (hjn : j.toNatClampNeg = jn) (he : l[p0]? = some (a, .inl (X.2.2.2.2.2.2.2.2.2.2.2.2.2.2.1 9, N, .inl f))) (hj : vp_in j N) (hl' : l.set p0 (a, .inl (X.2.2.2.2.2.2.2.2.2.2.2.2.2.2.1 9, N, .inl (upd f jn x))) = l') (hd : decode cc pc = .ok (.iastore, 1)) (k : ZK X Q ws0 k1 k2 (pc + 1) lv st l') : ZK X Q ws0 k1 k2 pc lv (.int x :: .int j :: .ref a :: st) l := by
  obtain ⟨p, la, e, R, s, m, args, below, meth, c, nL, ad, base, D, cA, k1', k2', n'⟩ := X
  obtain ⟨hx, hb, hml, hown, hts, hK, hbase, hR, hk, hinj, had, hlk, hRO, rfl, rfl, hrt⟩ := hC
  intro H locs ls hP hD hS hl
  subst hjn
  refine va_iast hx hb hK hP hD hS (ws0.length + p0) 0 (k_look.trans he) rfl hj hd (fun H1 locs1 hP1 hD1 hS1 => ?_)
  rw [k_set, hl'] at hP1 hD1
  exact k H1 locs1 ls hP1 hD1 hS1 hl
theorem k_aast (hC : e_C X cc own nl rt d nW) {a p0 p1 N v jn : Nat} {f : Nat → Option Nat} {j : Int32} {vs : List Value} {l' : va_W} (hjn : j.toNatClampNeg = jn) (he : l[p0]? = some (a, .inl (X.2.2.2.2.2.2.2.2.2.2.2.2.2.2.1 13, N, .inr (.inr (.inr (.inr f)))))) (hv : l[p1]? = some (v, .inr (0, vs))) (hj : vp_in j N) (hl' : l.set p0 (a, .inl (X.2.2.2.2.2.2.2.2.2.2.2.2.2.2.1 13, N, .inr (.inr (.inr (.inr (va_up f jn (some v))))))) = l') (hd : decode cc pc = .ok (.aastore, 1)) (k : ZK X Q ws0 k1 k2 (pc + 1) lv st l') : ZK X Q ws0 k1 k2 pc lv (.ref v :: .int j :: .ref a :: st) l := by
  obtain ⟨p, la, e, R, s, m, args, below, meth, c, nL, ad, base, D, cA, k1', k2', n'⟩ := X
  obtain ⟨hx, hb, hml, hown, hts, hK, hbase, hR, hk, hinj, had, hlk, hRO, rfl, rfl, hrt⟩ := hC
  intro H locs ls hP hD hS hl
  subst hjn
  refine va_astq hx hb hK hP hD hS (ws0.length + p0) 4 (ws0.length + p1) 0 (r := (RX0, TX0, 12)) (k_look.trans he) rfl (k_look.trans hv) rfl hj hd (fun H1 locs1 hP1 hD1 hS1 => ?_)
  rw [k_set, hl'] at hP1 hD1
  exact k H1 locs1 ls hP1 hD1 hS1 hl
theorem k_newq (hC : e_C X cc own nl rt d nW) {mc ms index : Nat} (hR2 : e_CR X mc ms) (h1 : Cond.classLink own index "RunWorth$Game" ∈ e_tbl) {n : Int32} {N : Nat} (hn : ¬ n < 0) (hN : n.toNatClampNeg = N) (hbytes : N * 4 ≤ 536870912) (hc : k1 + 1 ≤ mc) (hs : k2 + N ≤ ms) (hd : decode cc pc = .ok (.anewarray index, 3))
    (k : ∀ q : Nat, ZK X Q ws0 (k1 + 1) (k2 + N) (pc + 3) lv (.ref q :: st) (l ++ [(q, .inl (X.2.2.2.2.2.2.2.2.2.2.2.2.2.2.1 13, N, .inr (.inr (.inr (.inr (fun _ => none))))))])) : ZK X Q ws0 k1 k2 pc lv (.int n :: st) l := by
  obtain ⟨p, la, e, R, s, m, args, below, meth, c, nL, ad, base, D, cA, k1', k2', n'⟩ := X
  obtain ⟨hx, hb, hml, hown, hts, hK, hbase, hR, hk, hinj, had, hlk, hRO, rfl, rfl, hrt⟩ := hC
  intro H locs ls hP hD hS hl
  obtain ⟨hRc, hRs⟩ := hR2
  have hA : ∀ q, s.heap.size ≤ q → e_A base q := fun q hq => Nat.le_trans hbase hq
  refine va_newq hx hb hown (hts _ h1) hRO.2.2.2.2.2.2.2.1 hK hP hD hS hA hn hN hbytes (Nat.le_trans hc hRc) (Nat.le_trans hs hRs) hd (fun q cA' H1 hK1 hP1 hD1 hS1 => ?_)
  have hcA : cA' = cA 13 := by
    have h0 := (hK.2 4 _ (rfl : (e_tys cA)[4]? = some (cA 13, .object "RunWorth$Game"))).2
    have h9 := (hK1.2 5 _ (rfl : (e_tys cA ++ [(cA', FieldType.object "RunWorth$Game")])[5]? = some (cA', .object "RunWorth$Game"))).2
    obtain ⟨-, -, -, -, -, e1⟩ := h0
    obtain ⟨-, -, -, -, -, e2⟩ := h9
    rw [e1] at e2
    exact (Option.some.inj e2).symm
  subst hcA
  rw [List.append_assoc] at hP1 hD1
  exact k q H1 locs ls hP1 hD1 hS1 hl
/-- a constructor's contract: the object o0 at h0, last of the world, becomes the cells lw -/
def MtN (y : MethodName) (b : ByteArray) (maxL d mc ms : Nat) (o0 : va_E) (post : (Nat → ClassId) → Nat → va_W → Prop) : Prop :=
  ∀ (l : Launch) (ad : Nat → Nat) (base : Nat) (D : va_G) (cA : Nat → ClassId) (ws0 : va_W) (h0 : Nat),
    Met l y (.code y b maxL none :: e_tbl) { frames := d + 1, cells := mc, slots := ms, locals := 40 * (d + 1) }
      (va_Pc [.ref h0] (fun U => base ≤ U.heap.size ∧ va_P D vwCl (ws0 ++ [(h0, o0)]) U.heap ∧ va_D (e_A base) (ws0 ++ [(h0, o0)]) ∧ va_K D vwCl (e_tys cA) U ∧ e_RO ad base U U.heap))
      (fun _ st o t => o = .returned none ∧ (∃ lw, post cA h0 lw ∧ va_P D vwCl (ws0 ++ lw) t.heap ∧ va_D (e_A base) (ws0 ++ lw)) ∧ va_F (e_A base) st t) mc ms (e_A base)
def e_QN (X : e_X) (ws0 : va_W) (h0 mc ms : Nat) (post : (Nat → ClassId) → Nat → va_W → Prop) : State → Prop := match X with
  | (_, _, _, _, s, _, args, below, _, _, _, _, base, D, cA, _, _, _) => MQ below (fun _ st o t => o = .returned none ∧ (∃ lw, post cA h0 lw ∧ va_P D vwCl (ws0 ++ lw) t.heap ∧ va_D (e_A base) (ws0 ++ lw)) ∧ va_F (e_A base) st t) args s mc ms (e_A base)
theorem k_vret {h0 mc ms : Nat} {post : (Nat → ClassId) → Nat → va_W → Prop} (hC : e_C X cc own nl none d nW) (hp : post (X.2.2.2.2.2.2.2.2.2.2.2.2.2.2.1) h0 l) (e1 : k1 = mc) (e2 : k2 = ms) (hd : decode cc pc = .ok (.return_, 1)) : ZK X (e_QN X ws0 h0 mc ms post) ws0 k1 k2 pc lv [] l := by
  subst e1; subst e2
  obtain ⟨p, la, e, R, s, m, args, below, meth, c, nL, ad, base, D, cA, k1', k2', n'⟩ := X
  obtain ⟨hx, hb, hml, hown, hts, hK, hbase, hR, hk, hinj, had, hlk, hRO, rfl, rfl, hrt⟩ := hC
  intro H locs ls hP hD hS hl
  show W p la e R s m args below meth c H locs k1 k2 (MQ below (fun _ st o t => o = .returned none ∧ (∃ lw, post cA h0 lw ∧ va_P D vwCl (ws0 ++ lw) t.heap ∧ va_D (e_A base) (ws0 ++ lw)) ∧ va_F (e_A base) st t) args s k1 k2 (e_A base)) (F0 m pc ls [])
  exact W.vret hx hb hrt (fun t ht hW => ⟨rfl, ⟨l, hp, by rw [ht]; exact hP, hD⟩, hS.F ht⟩) hS.2.2 hd hlk
theorem k_enter {y : MethodName} {b : ByteArray} {maxL d mc ms : Nat} {o0 : va_E} {post : (Nat → ClassId) → Nat → va_W → Prop} (hy : plainName y.cls = true) (hn : y.name = "<init>") (hlen : 1 ≤ maxL)
    (h : ∀ (X : e_X) (ws0 : va_W) (h0 : Nat), e_C X b y.cls maxL none d 0 → e_CR X mc ms → e_CI X → ZK X (e_QN X ws0 h0 mc ms post) ws0 0 0 0 [(0, .ref h0)] [] [(h0, o0)]) : MtN y b maxL d mc ms o0 post := by
  intro l ad base D cA ws0 h0
  refine Met.ofW (cc := b) (maxL := maxL) (ret := none) hy rfl ?_
  intro p e s m args below meth c s₁ B hml hv
  obtain ⟨rfl, hbase, hP, hD, hK, hRO⟩ := hv
  have hts := atoms_spec (ws := .code y b maxL none :: e_tbl) B.pre
  have hC : e_C (p, l, e, (headSpec (.code y b maxL none :: e_tbl) { frames := d + 1, cells := mc, slots := ms, locals := 40 * (d + 1) }).room, s, m, ([Value.ref h0]).toArray, below, meth, c, maxL, ad, base, D, cA, 0, 0, 0) b y.cls maxL none d 0 :=
    ⟨B.exec, B.bytes, hml, findClass_of_methodNamed B.named, fun w hw => hts w (List.mem_cons_of_mem _ hw), hK, hbase, (⟨Nat.le_refl _, Nat.le_refl _⟩ : d + 1 ≤ (headSpec (.code y b maxL none :: e_tbl) { frames := d + 1, cells := mc, slots := ms, locals := 40 * (d + 1) }).room.frames ∧ 40 * (d + 1) ≤ (headSpec (.code y b maxL none :: e_tbl) { frames := d + 1, cells := mc, slots := ms, locals := 40 * (d + 1) }).room.locals), ⟨Nat.zero_le _, Nat.zero_le _⟩, fun i j hi => absurd hi (Nat.not_lt_zero i), fun i hi => absurd hi (Nat.not_lt_zero i), B.notSynchronized, hRO, rfl, rfl, B.returns⟩
  have hl := lv_entry ([.ref h0]) (n := maxL) hlen
  rw [lg_entry_eq]
  generalize (lg_sl ([.ref h0]) ++ List.replicate (maxL - (lg_sl ([.ref h0])).length) Slot.unset).toArray = ls at hl ⊢
  exact h _ ws0 h0 hC ⟨Nat.le_refl _, Nat.le_refl _⟩ ((name_of_methodNamed B.named B.method).1.trans hn) s.heap [] ls hP hD va_S.rf hl
/-- a call of a constructor on the last cell, which has just been made -/
theorem k_back {p : Program} {la : Launch} {e : Env} {R : Room} {s : State} {m : MethodId} {args : Array Value} {below : List Frame} {meth : Method} {c : Code} {H : Heap} {locs : List Loc} {mc ms : Nat} {ls : Array Slot} {ss : List Value} {a : Array Value} {base h0 : Nat} {D : va_G} {cA : Nat → ClassId} {wsa : va_W} {post : (Nat → ClassId) → Nat → va_W → Prop}
    (hr : va_Run p la e R s m args below meth c H locs k1 k2 mc ms (F0 m pc ls ss) st ((fun (_ : Array Value) st o t => o = Outcome.returned none ∧ (∃ lw, post cA h0 lw ∧ va_P D vwCl (wsa ++ lw) t.heap ∧ va_D (e_A base) (wsa ++ lw)) ∧ va_F (e_A base) st t) a) (e_A base)) (hS : va_S (e_A base) s.heap H locs)
    (kk : ∀ (lw : va_W) (H1 : Heap) (locs1 : List Loc), post cA h0 lw → va_P D vwCl (wsa ++ lw) H1 → va_D (e_A base) (wsa ++ lw) → va_S (e_A base) s.heap H1 locs1 → W p la e R s m args below meth c H1 locs1 (k1 + mc) (k2 + ms) Q (F0 m (pc + 3) ls st)) : W p la e R s m args below meth c H locs k1 k2 Q (F0 m pc ls ss) := by
  intro T hT X
  obtain ⟨v, st₀, t, T', L, h0, X', hL, e1, e2, ⟨hv, ⟨lw, hpo, hP, hD⟩, hz, hk⟩, stp⟩ := hr T hT X
  have hv : v = none := Outcome.returned.inj hv
  subst hv
  rw [h0] at hz hk
  obtain ⟨t2, a1, b1⟩ := kk lw T'.heap (locs ++ L) hpo (by rw [e1]; exact hP) hD ⟨Nat.le_trans hS.1 (by rw [e1]; exact hz), fun q h1 h2 => by rw [e1, hk q (Nat.lt_of_lt_of_le h1 hS.1) h2]; exact hS.2.1 q h1 h2, fun q hq => by
    rcases List.mem_append.mp hq with h | h
    · exact hS.2.2 q h
    · exact hL q h⟩ T' rfl X'
  exact ⟨t2, stp t2 a1, b1⟩
theorem k_blind {base h0 : Nat} {ad : Nat → Nat} {D : va_G} {cA : Nat → ClassId} {wsa : va_W} : FrameBlind (va_Pc [.ref h0] (fun U => base ≤ U.heap.size ∧ va_P D vwCl wsa U.heap ∧ va_D (e_A base) wsa ∧ va_K D vwCl (e_tys cA) U ∧ e_RO ad base U U.heap)) := fun a U g mk h => by
  obtain ⟨h1, h2, h3, h4, h5, h6⟩ := h
  exact ⟨h1, h2, h3, h4, va_K.moved (u := U) (U := U.calling g mk a) (Vm.Alike.refl U.vm) h5, e_RO.same (s := U) (U := U.calling g mk a) rfl h6⟩
theorem k_callIN (hC : e_C X cc own nl rt d nW) {y : MethodName} {b : ByteArray} {maxL d' mc ms idx a MC MS : Nat} {o0 : va_E} {post : (Nat → ClassId) → Nat → va_W → Prop} (hR2 : e_CR X MC MS) (hm : e_me y b maxL none 0) (hy1 : y.name = "<init>") (hl9 : (own, idx, y) ∈ e_nest) (hi : Cond.instanceMethod y ∈ e_tbl) (hM : MtN y b maxL d' mc ms o0 post) (hdd : d' < d) (hc : k1 + mc ≤ MC) (hs : k2 + ms ≤ MS) (hroom : (st.map fun v => v.category).sum ≤ 8) (hd : decode cc pc = .ok (.invokespecial idx, 3))
    (k : ∀ lw, post (X.2.2.2.2.2.2.2.2.2.2.2.2.2.2.1) a lw → ZK X Q ws0 (k1 + mc) (k2 + ms) (pc + 3) lv st (l ++ lw)) : ZK X Q ws0 k1 k2 pc lv (.ref a :: st) (l ++ [(a, o0)]) := by
  obtain ⟨p, la, e, R, s, m, args, below, meth, c, nL, ad, base, D, cA, k1', k2', n'⟩ := X
  obtain ⟨hx, hb, hml, hown, hts, hK, hbase, hR, hk, hinj, had, hlk, hRO, rfl, rfl, hrt⟩ := hC
  intro H locs ls hP hD hS hl
  obtain ⟨m1, m2, m3, m4, m5⟩ := hm
  rw [← List.append_assoc] at hP hD
  refine k_back (a := (Value.ref a :: ([] : List Value)).toArray) (va_runIN (host := "RunWorth") (b := a) (As := []) (rest := st) (Ts := e_tbl) (bytes := b) (maxL := maxL) (n := 0) ⟨hx, hb, hml, hown, hts⟩ (hM la ad base D cA (ws0 ++ l) a) ⟨⟨⟨rfl, rfl, ?_, ?_, ?_, List.mem_cons_self⟩, hts _ m1, hts _ m5, m3, e_np m4, va_Nw.use rfl (hRO.2.2.2.1 _ hl9)⟩, hy1, hts _ hi⟩ ⟨k_blind, ?_⟩ rfl rfl hl.1 rfl (lv_room hroom) hd ⟨Nat.le_trans hc hR2.1, Nat.le_trans hs hR2.2⟩) hS (fun lw H1 locs1 hpo hP1 hD1 hS1 => ?_)
  · show d' + 1 + 1 ≤ R.frames
    omega
  · show 8 + (maxL + 11) + 40 * (d' + 1) ≤ R.locals
    omega
  · intro w hw a' U hW
    rcases List.mem_cons.mp hw with rfl | hw
    · exact e_good hts m1 a' U hW
    · exact e_good hts hw a' U hW
  · exact fun U hU hW => ⟨rfl, by rw [hU]; exact Nat.le_trans hbase hS.1, by rw [hU]; exact hP, hD, va_K.moved hW.alike hK, by rw [hU]; exact hRO.warm hW hS.2.1⟩
  · rw [List.append_assoc] at hP1 hD1
    exact k lw hpo H1 locs1 ls hP1 hD1 hS1 hl
theorem k_l {l' : va_W} (h : l = l') (k : ZK X Q ws0 k1 k2 pc lv st l') : ZK X Q ws0 k1 k2 pc lv st l := by rw [h]; exact k
/-- a call of a method that touches no cell -/
theorem k_pureS (hC : e_C X cc own nl rt d nW) {y : MethodName} {b : ByteArray} {maxL d' idx np : Nat} {ret : Option FieldType} {As ss : List Value} {v : Int32} (hm : e_me y b maxL ret np) (hl9 : Cond.methodLink own idx y ∈ e_tbl) (hi : Cond.static y ∈ e_tbl) {I : e_I} {L : e_L} (hM : Mt y b maxL ret d' 0 As I L (some (.int v), I, L)) (hdd : d' < d) (hn : As.length = np) (hroom : (st.map fun v => v.category).sum ≤ 8) (hd : decode cc pc = .ok (.invokestatic idx, 3)) (hss : ss = (As.map (cv X.2.2.2.2.2.2.2.2.2.2.2.1)).reverse ++ st)
    (k : ZK X Q ws0 k1 k2 (pc + 3) lv (.int v :: st) l) {MC MS : Nat} (hR2 : e_CR X MC MS) (hk1 : k1 ≤ MC) (hk2 : k2 ≤ MS) : ZK X Q ws0 k1 k2 pc lv ss l := by
  subst hss
  obtain ⟨p, la, e, R, s, m, args, below, meth, c, nL, ad, base, D, cA, k1', k2', n'⟩ := X
  obtain ⟨hx, hb, hml, hown, hts, hK, hbase, hR, hk, hinj, had, hlk, hRO, rfl, rfl, hrt⟩ := hC
  intro H locs ls hP hD hS hl
  obtain ⟨m1, m2, m3, m4, m5⟩ := hm
  have hB : ∀ q : Nat, H.size ≤ q → base ≤ q := fun q hq => Nat.le_trans (Nat.le_trans hbase hS.1) hq
  have hRO2 : e_RO ad H.size s H := by
    obtain ⟨r1, r2, r3, r4, r5, r6, r7, r8, r9, r10⟩ := hRO
    exact ⟨(r1.kept hS.2.1).narrow hB, r2, (r3.kept hS.2.1).narrow hB, r4, r5.imp (fun h => (h.kept hS.2.1).narrow hB) (fun h => (h.kept hS.2.1).narrow hB), (r6.kept hS.2.1).narrow hB, (r7.kept hS.2.1).narrow hB, r8, r9, r10⟩
  have hr := va_runS (R := R) (As := As.map (cv ad)) (rest := st) (Ts := e_tbl) (bytes := b) (maxL := maxL) (ret := ret) (n := np) (H := H) (locs := locs) (cells := k1) (slots := k2) (g := F0 m pc ls ((As.map (cv ad)).reverse ++ st)) (below := below) (meth := meth) (e := e) ⟨hx, hb, hml, hown, hts⟩ (hM la ad H.size D cA (fun i j hi => absurd hi (Nat.not_lt_zero i)) (fun i hi => absurd hi (Nat.not_lt_zero i))) ⟨⟨rfl, rfl, by show d' + 1 + 1 ≤ R.frames; omega, by show 8 + (maxL + 11) + 40 * (d' + 1) ≤ R.locals; omega, fun w hw a' U hW => by
    rcases List.mem_cons.mp hw with rfl | hw
    · exact e_good hts m1 a' U hW
    · exact e_good hts hw a' U hW, List.mem_cons_self, hts _ m1, hts _ m5, m3, e_np m4, hts _ hl9⟩, hts _ hi⟩ ⟨e_blind, fun U hU hW => ⟨rfl, by rw [hU]; exact Nat.le_refl _, by rw [hU]; intro k q hq; simp [e_ws] at hq, va_K.moved hW.alike hK, by rw [hU]; exact hRO2.warm hW (fun _ _ _ => rfl)⟩⟩ rfl (by rw [List.length_map]; exact hn) hl.1 rfl (lv_room hroom) hd ⟨Nat.le_trans hk1 hR2.1, Nat.le_trans hk2 hR2.2⟩
  intro T hT XS
  obtain ⟨w, st₀, t, T', L', h0, X', hL, e1, e2, ⟨hv, -, hz, hk9⟩, stp⟩ := hr T hT XS
  have hv : w = some (.int v) := Outcome.returned.inj hv
  subst hv
  rw [h0] at hz hk9
  have hq : ∀ q : Nat, q < H.size → T'.heap[q]? = H[q]? := fun q h1 => by rw [e1]; exact hk9 q h1 (Nat.not_le.mpr h1)
  obtain ⟨t2, a1, b1⟩ := k T'.heap (locs ++ L') ls (hP.kept (fun k q hq' => hq q.1 (hP k q hq').lt)) hD ⟨Nat.le_trans hS.1 (by rw [e1]; exact hz), fun q h1 h2 => by rw [hq q (Nat.lt_of_lt_of_le h1 hS.1)]; exact hS.2.1 q h1 h2, fun q hq' => by
    rcases List.mem_append.mp hq' with h | h
    · exact hS.2.2 q h
    · exact hB _ (hL q h)⟩ hl T' rfl X'
  exact ⟨t2, stp t2 a1, b1⟩
theorem k_callI (hC : e_C X cc own nl rt d nW) {y : MethodName} {b : ByteArray} {maxL d' mc ms idx a MC MS : Nat} {o0 : va_E} {post : (Nat → ClassId) → Nat → va_W → Prop} (hR2 : e_CR X MC MS) (hm : e_me y b maxL none 0) (hy1 : y.name = "<init>") (hl9 : Cond.methodLink own idx y ∈ e_tbl) (hi : Cond.instanceMethod y ∈ e_tbl) (hM : MtN y b maxL d' mc ms o0 post) (hdd : d' < d) (hc : k1 + mc ≤ MC) (hs : k2 + ms ≤ MS) (hroom : (st.map fun v => v.category).sum ≤ 8) (hd : decode cc pc = .ok (.invokespecial idx, 3))
    (k : ∀ lw, post (X.2.2.2.2.2.2.2.2.2.2.2.2.2.2.1) a lw → ZK X Q ws0 (k1 + mc) (k2 + ms) (pc + 3) lv st (l ++ lw)) : ZK X Q ws0 k1 k2 pc lv (.ref a :: st) (l ++ [(a, o0)]) := by
  obtain ⟨p, la, e, R, s, m, args, below, meth, c, nL, ad, base, D, cA, k1', k2', n'⟩ := X
  obtain ⟨hx, hb, hml, hown, hts, hK, hbase, hR, hk, hinj, had, hlk, hRO, rfl, rfl, hrt⟩ := hC
  intro H locs ls hP hD hS hl
  obtain ⟨m1, m2, m3, m4, m5⟩ := hm
  rw [← List.append_assoc] at hP hD
  refine k_back (a := (Value.ref a :: ([] : List Value)).toArray) (va_runI (b := a) (As := []) (rest := st) (Ts := e_tbl) (bytes := b) (maxL := maxL) (n := 0) ⟨hx, hb, hml, hown, hts⟩ (hM la ad base D cA (ws0 ++ l) a) ⟨⟨rfl, rfl, ?_, ?_, ?_, List.mem_cons_self, hts _ m1, hts _ m5, m3, e_np m4, hts _ hl9⟩, hy1, hts _ hi⟩ ⟨k_blind, ?_⟩ rfl rfl hl.1 rfl (lv_room hroom) hd ⟨Nat.le_trans hc hR2.1, Nat.le_trans hs hR2.2⟩) hS (fun lw H1 locs1 hpo hP1 hD1 hS1 => ?_)
  · show d' + 1 + 1 ≤ R.frames
    omega
  · show 8 + (maxL + 11) + 40 * (d' + 1) ≤ R.locals
    omega
  · intro w hw a' U hW
    rcases List.mem_cons.mp hw with rfl | hw
    · exact e_good hts m1 a' U hW
    · exact e_good hts hw a' U hW
  · exact fun U hU hW => ⟨rfl, by rw [hU]; exact Nat.le_trans hbase hS.1, by rw [hU]; exact hP, hD, va_K.moved hW.alike hK, by rw [hU]; exact hRO.warm hW hS.2.1⟩
  · rw [List.append_assoc] at hP1 hD1
    exact k lw hpo H1 locs1 ls hP1 hD1 hS1 hl
end KZ
