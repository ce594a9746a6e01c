/-! NAMED: RunWorth.named walked -/
theorem mlN_352 : Cond.methodLink RX7 352 yX6_onlyWord ∈ e_tbl := e_in 1109 (by decide +kernel) (by decide +kernel)
theorem imN_only : Cond.instanceMethod yX6_onlyWord ∈ e_tbl := e_in 1110 (by decide +kernel) (by decide +kernel)
theorem seN_only : Cond.selects yX6_onlyWord.cls yX6_onlyWord yX6_onlyWord ∈ e_tbl := e_in 1111 (by decide +kernel) (by decide +kernel)
theorem meN_only : e_me yX6_onlyWord cX6_onlyWord 3 (some .int) 1 := ⟨e_in 1112 (by decide +kernel) (by decide +kernel), by decide, ⟨by decide +kernel, by decide +kernel⟩, by decide +kernel, e_in 94 (by decide +kernel) (by decide +kernel)⟩
theorem mlN_7 : Cond.methodLink RL 7 yX7_named ∈ e_tbl := e_in 1105 (by decide +kernel) (by decide +kernel)
theorem imN_7 : Cond.instanceMethod yX7_named ∈ e_tbl := e_in 1106 (by decide +kernel) (by decide +kernel)
theorem seN_7 : Cond.selects yX7_named.cls yX7_named yX7_named ∈ e_tbl := e_in 1107 (by decide +kernel) (by decide +kernel)
theorem meN_7 : e_me yX7_named cX7_named 4 (some .int) 1 := ⟨e_in 1108 (by decide +kernel) (by decide +kernel), by decide, ⟨by decide +kernel, by decide +kernel⟩, by decide +kernel, e_in 93 (by decide +kernel) (by decide +kernel)⟩
theorem mlN_183 : Cond.methodLink RL 183 yX8_named ∈ e_tbl := e_in 1680 (by decide +kernel) (by decide +kernel)
theorem imN_8 : Cond.instanceMethod yX8_named ∈ e_tbl := e_in 1681 (by decide +kernel) (by decide +kernel)
theorem seN_8 : Cond.selects yX8_named.cls yX8_named yX8_named ∈ e_tbl := e_in 1682 (by decide +kernel) (by decide +kernel)
theorem meN_8 : e_me yX8_named cX8_named 5 (some .int) 1 := ⟨e_in 1683 (by decide +kernel) (by decide +kernel), by decide, ⟨by decide +kernel, by decide +kernel⟩, by decide +kernel, e_in 105 (by decide +kernel) (by decide +kernel)⟩
theorem mlN_184 : Cond.methodLink RL 184 yX8_thrown ∈ e_tbl := e_in 1290 (by decide +kernel) (by decide +kernel)
theorem imN_t : Cond.instanceMethod yX8_thrown ∈ e_tbl := e_in 1291 (by decide +kernel) (by decide +kernel)
theorem seN_t : Cond.selects yX8_thrown.cls yX8_thrown yX8_thrown ∈ e_tbl := e_in 1292 (by decide +kernel) (by decide +kernel)
theorem meN_t : e_me yX8_thrown cX8_thrown 1 (some .int) 0 := ⟨e_in 1293 (by decide +kernel) (by decide +kernel), by decide, ⟨by decide +kernel, by decide +kernel⟩, by decide +kernel, e_in 105 (by decide +kernel) (by decide +kernel)⟩
theorem dN_0 : decode cL_named 0 = .ok (.aload_n 2, 1) := by decide +kernel
theorem dN_1 : decode cL_named 1 = .ok (.iconst 0, 1) := by decide +kernel
theorem dN_2 : decode cL_named 2 = .ok (.aload_n 0, 1) := by decide +kernel
theorem dN_3 : decode cL_named 3 = .ok (.iload_n 1, 1) := by decide +kernel
theorem dN_4 : decode cL_named 4 = .ok (.invokevirtual 7, 3) := by decide +kernel
theorem dN_7 : decode cL_named 7 = .ok (.i2l, 1) := by decide +kernel
theorem dN_8 : decode cL_named 8 = .ok (.lastore, 1) := by decide +kernel
theorem dN_9 : decode cL_named 9 = .ok (.goto 6, 3) := by decide +kernel
theorem dN_12 : decode cL_named 12 = .ok (.astore_n 3, 1) := by decide +kernel
theorem dN_13 : decode cL_named 13 = .ok (.iconst 1, 1) := by decide +kernel
theorem dN_14 : decode cL_named 14 = .ok (.ireturn, 1) := by decide +kernel
theorem dN_15 : decode cL_named 15 = .ok (.iconst 0, 1) := by decide +kernel
theorem dN_16 : decode cL_named 16 = .ok (.ireturn, 1) := by decide +kernel
def fnd (C : Nat → Int32) (v : Int32) : Nat → Nat → Option Nat
  | 0, _ => none
  | m + 1, b => if C b = v then some b else fnd C v m (b + 1)
/-- the name asked for, and what its reading leaves -/
def nmN (a1 : Int32) (I : e_I) (nm : Int32) (I1 : e_I) : Prop := (0 ≤ a1 ∧ a1 ≤ I 1 3 ∧ f_X6_onlyWord a1 I = some (nm, I1)) ∨ (¬ (0 ≤ a1 ∧ a1 ≤ I 1 3) ∧ nm = -1 ∧ I1 = I)
section NM
variable {X : e_X} {d : Nat} {Q : State → Prop} {L : e_L}
theorem nm_loop {cnt : Nat} {nm a1 : Int32} {I : e_I} (hC : e_C X cX7_named RX7 4 (some .int) d gN) (hc : cnt ≤ 9) (h0 : I 23 0 = nI cnt) : ∀ m b, b + m = cnt → (∀ b', fnd (I 8) nm m b = some b' → Z X Q 58 [(3, .int (nI b')), (2, .int nm), (0, .ref 0), (1, .int a1)] [.int (nI b')] I L) → (fnd (I 8) nm m b = none → ∀ j, Z X Q 65 [(3, .int j), (2, .int nm), (0, .ref 0), (1, .int a1)] [] I L) → Z X Q 30 [(3, .int (nI b)), (2, .int nm), (0, .ref 0), (1, .int a1)] [] I L := by
  intro m
  induction m with
  | zero =>
    intro b hb kf kn
    have hb : b = cnt := hb
    refine z_iload_n hC dX7_named_30 rfl 0 rfl ?_
    refine z_aload_n hC dX7_named_31 rfl 2 rfl ?_
    refine z_getR hC (r := 23) fk7_23 (by decide) gr_0_2 at_0 dX7_named_32 ?_
    refine z_getI hC fk7_104 at_23 dX7_named_35 ?_
    rw [h0]
    refine z_icmp_ge (tgt := 65) hC dX7_named_38 (by decide) (fun _ => kn rfl _) (fun n => absurd (nI_le (by omega) (by omega)) n)
  | succ m ih =>
    intro b hb kf kn
    have g9 : ¬ nI b ≥ 9 := c_ge (N := 9) (by omega) (by decide)
    refine z_iload_n hC dX7_named_30 rfl 0 rfl ?_
    refine z_aload_n hC dX7_named_31 rfl 2 rfl ?_
    refine z_getR hC (r := 23) fk7_23 (by decide) gr_0_2 at_0 dX7_named_32 ?_
    refine z_getI hC fk7_104 at_23 dX7_named_35 ?_
    rw [h0]
    refine z_icmp_ge (tgt := 65) hC dX7_named_38 (by decide) (fun n => absurd n (c_ge (by omega) (by omega))) (fun _ => ?_)
    refine z_iload_n hC dX7_named_41 rfl 0 rfl ?_
    refine z_bipush (v := 9) hC (by decide) dX7_named_42 ?_
    refine z_icmp_ge (tgt := 65) hC dX7_named_44 (by decide) (fun n => absurd n g9) (fun _ => ?_)
    refine z_aload_n hC dX7_named_47 rfl 2 rfl ?_
    refine z_getR hC (r := 8) fk7_16 (by decide) gr_0_1 at_0 dX7_named_48 ?_
    refine z_iload_n hC dX7_named_51 rfl 0 rfl ?_
    refine z_iald hC ar_8 (vp_in_nI (by omega) (by omega)) dX7_named_52 ?_
    rw [nI_clamp (n := b) (by omega)]
    refine z_iload_n hC dX7_named_53 rfl 1 rfl ?_
    refine z_icmp_ne (tgt := 59) hC dX7_named_54 (by decide) (fun ne => ?_) (fun ne => ?_)
    · have e : fnd (I 8) nm (m + 1) b = fnd (I 8) nm m (b + 1) := if_neg ne
      rw [e] at kf kn
      refine z_iinc (v := nI (b + 1)) hC dX7_named_59 0 rfl (nI_1 b) (by decide) rfl ?_
      exact z_goto (tgt := 30) hC dX7_named_62 (by decide) (ih (b + 1) (by omega) kf kn)
    · have eq : I 8 b = nm := by
        by_cases q : I 8 b = nm
        · exact q
        · exact absurd q ne
      have e : fnd (I 8) nm (m + 1) b = some b := if_pos eq
      refine z_iload_n hC dX7_named_57 rfl 0 rfl ?_
      exact kf b e
theorem nm_walk {cnt : Nat} {nm a1 : Int32} {I I1 : e_I} (hC : e_C X cX7_named RX7 4 (some .int) d gN) (hd : 3 < d) (hn : nmN a1 I nm I1) (hc : cnt ≤ 9) (h0 : I1 23 0 = nI cnt) (kf : ∀ b', fnd (I1 8) nm cnt 0 = some b' → Z X Q 58 [(3, .int (nI b')), (2, .int nm), (0, .ref 0), (1, .int a1)] [.int (nI b')] I1 L) (kn : fnd (I1 8) nm cnt 0 = none → ∀ j, Z X Q 65 [(3, .int j), (2, .int nm), (0, .ref 0), (1, .int a1)] [] I1 L) : Z X Q 0 [(0, .ref 0), (1, .int a1)] [] I L := by
  have tail : Z X Q 27 [(0, .ref 0), (1, .int a1)] [.int nm] I1 L := by
    refine z_istore_n (lv' := [(2, .int nm), (0, .ref 0), (1, .int a1)]) hC dX7_named_27 rfl (by decide) rfl ?_
    refine z_iconst (v := nI 0) hC (by decide) dX7_named_28 ?_
    refine z_istore_n (lv' := [(3, .int (nI 0)), (2, .int nm), (0, .ref 0), (1, .int a1)]) hC dX7_named_29 rfl (by decide) rfl ?_
    exact nm_loop hC hc h0 cnt 0 (by omega) kf kn
  refine z_iload_n hC dX7_named_0 rfl 1 rfl ?_
  refine z_iconst (v := 0) hC (by decide) dX7_named_1 ?_
  refine z_aload_n hC dX7_named_2 rfl 0 rfl ?_
  refine z_getR hC (r := 1) fk7_12 (by decide) gr_0_0 at_0 dX7_named_3 ?_
  refine z_getI hC fk7_58 at_1 dX7_named_6 ?_
  refine z_callS hC (As := [.int a1, .int 0, .int (I 1 3)]) (st := []) (r := ph_i I L (if 0 ≤ a1 ∧ a1 ≤ I 1 3 then 1 else 0)) me_X7_within mlX7_66 sm_X7_within (T_X7_within a1 0 (I 1 3) I L _ (r_within _ _ _)) (by omega) rfl (Nat.le_of_ble_eq_true rfl) dX7_named_9 rfl ?_
  show Z X Q 12 [(0, .ref 0), (1, .int a1)] [.int (if 0 ≤ a1 ∧ a1 ≤ I 1 3 then 1 else 0)] I L
  rcases hn with ⟨n1, n2, n3⟩ | ⟨n1, n2, n3⟩
  · rw [if_pos ⟨n1, n2⟩]
    refine z_if_eq (tgt := 26) hC dX7_named_12 (by decide) (fun n => absurd n (by decide)) (fun _ => ?_)
    refine z_aload_n hC dX7_named_15 rfl 0 rfl ?_
    refine z_getR hC (r := 1) fk7_12 (by decide) gr_0_0 at_0 dX7_named_16 ?_
    refine z_iload_n hC dX7_named_19 rfl 1 rfl ?_
    refine z_callV hC (As := [.int a1]) (st := []) (ci := 6) (r := ph_iI L (nm, I1)) meN_only mlN_352 imN_only seN_only rfl (by decide) at_1 (T_X6_onlyWord a1 I L _ n3) hd rfl (Nat.le_of_ble_eq_true rfl) dX7_named_20 rfl ?_
    show Z X Q 23 [(0, .ref 0), (1, .int a1)] [.int nm] I1 L
    exact z_goto (tgt := 27) hC dX7_named_23 (by decide) tail
  · rw [if_neg n1]
    refine z_if_eq (tgt := 26) hC dX7_named_12 (by decide) (fun _ => ?_) (fun n => absurd rfl n)
    subst n2
    subst n3
    refine z_iconst (v := -1) hC (by decide) dX7_named_26 ?_
    exact tail
end NM
/-- it finds the name -/
theorem nm_found {cnt b : Nat} {nm a1 : Int32} {I I1 : e_I} {L : e_L} (hn : nmN a1 I nm I1) (hc : cnt ≤ 9) (h0 : I1 23 0 = nI cnt) (hf : fnd (I1 8) nm cnt 0 = some b) : Mt yX7_named cX7_named 4 (some .int) 6 gN [.ref 0, .int a1] I L (some (.int (nI b)), I1, L) := by
  refine e_enter (by decide) (Nat.le_of_ble_eq_true rfl) (fun X hC => ?_)
  refine nm_walk hC (by decide) hn hc h0 (fun b' e => ?_) (fun e => ?_)
  · rw [hf] at e
    injection e with e
    subst e
    exact z_iret hC dX7_named_58
  · rw [hf] at e
    cases e
/-! NAMED: RunWorth.named throws; RunWorthLaw.named returns or catches -/
def nsI : List Nat := [109, 1135, 1144, 1146, 1149, 1151, 1136, 1137, 119, 120, 1138, 1143, 1147, 1167, 1125, 1168, 1127, 1169, 1129, 1139, 1141, 1131, 1163, 1164, 1166, 1131, 1154, 1155, 1156, 1157, 1157, 1158, 1159, 1160, 1160, 1161, 1162, 1163, 1153, 1114, 1122, 1123, 1124, 1126, 1128, 1130, 1134, 1133, 1132]
def nsN : List Cond := [.declares ⟨"java/lang/RuntimeException", "<init>", "(Ljava/lang/String;)V"⟩, .declares ⟨"java/lang/Exception", "<init>", "(Ljava/lang/String;)V"⟩, .declares ⟨"java/lang/Throwable", "<init>", "(Ljava/lang/String;)V"⟩, .castable nse nse]
set_option maxRecDepth 100000 in
theorem ns_good : (nsA.filter vx_no).filter goodWord = nsI.filterMap (fun i => lw_tbl[i]?) := by decide +kernel
set_option maxRecDepth 100000 in
theorem ns_not : (nsA.filter vx_no).filter (fun w => !goodWord w) = nsN := by decide +kernel
theorem ns_in {w : Cond} (h : w ∈ (nsA.filter vx_no).filter goodWord) : w ∈ e_tbl := by
  have hg := (List.mem_filter.mp h).2
  rw [ns_good] at h
  obtain ⟨i, -, hi⟩ := List.mem_filterMap.mp h
  exact List.mem_filter.mpr ⟨List.mem_of_getElem? hi, hg⟩
theorem ns_at {ad : Nat → Nat} {base : Nat} {args : Array Value} {s : State} {H : Heap} (hts : ∀ w ∈ e_tbl, w.before args s = true) (hRO : e_RO ad base s H) : ∀ w ∈ nsA.filter vx_no, w.before args s = true := by
  obtain ⟨-, -, -, -, -, -, -, -, h9, h10⟩ := hRO
  refine vx_hat (B := nsN) (fun w hw => hts w (ns_in hw)) (fun w hw => by rw [ns_not] at hw; exact hw) ?_
  refine vx_c (va_Nw.use rfl (h10 _ (by decide))) (vx_c (va_Nw.use rfl (h10 _ (by decide))) (vx_c (va_Nw.use rfl (h10 _ (by decide))) (vx_c (va_Nw.use rfl h9) vx_n)))
def e_XC (ad : Nat → Nat) (base : Nat) (D : va_G) (cA : Nat → ClassId) (I : e_I) (L : e_L) : String → State → State → Prop := fun E st t => E = nse ∧ va_P D vwCl (e_ws ad cA gN I L) t.heap ∧ va_F (e_A base) st t
abbrev rm7 : Room := { frames := 7, cells := 1, slots := 6, locals := 280 }
abbrev rm9 : Room := { frames := 9, cells := 1, slots := 6, locals := 360 }
theorem nm_throws {l : Launch} (hst : l.stackTraces = false) {ad : Nat → Nat} {base : Nat} {D : va_G} {cA : Nat → ClassId} (hinj : ∀ i j, i < gN → j < gN → ad i = ad j → i = j) (had : ∀ i, i < gN → base ≤ ad i) {cnt : Nat} {nm a1 : Int32} {I I1 : e_I} {L : e_L} (hn : nmN a1 I nm I1) (hc : cnt ≤ 9) (h0 : I1 23 0 = nI cnt) (hf : fnd (I1 8) nm cnt 0 = none) :
    vx_Met l yX7_named (.code yX7_named cX7_named 4 (some .int) :: e_tbl) rm7 (e_Pc ad base D cA gN [.ref 0, .int a1] I L) (fun _ _ _ _ => False) (e_XC ad base D cA I1 L) 1 6 (e_A base) := by
  refine vx_ofW (cc := cX7_named) (maxL := 4) (ret := some .int) (by decide) rfl ?_
  intro p e s m args below meth c s₁ B hml ht hv
  obtain ⟨rfl, hbase, hP, hK, hRO⟩ := hv
  have hts := atoms_spec (ws := .code yX7_named cX7_named 4 (some .int) :: e_tbl) B.pre
  have hC : e_C (p, l, e, _, s, m, ([Value.ref 0, .int a1].map (cv ad)).toArray, below, meth, c, 4, ad, base, D, cA, 0, 0, gN) cX7_named RX7 4 (some .int) 6 gN :=
    ⟨B.exec, B.bytes, hml, findClass_of_methodNamed B.named, fun w hw => hts w (List.mem_cons_of_mem _ hw), hK, hbase, (⟨Nat.le_refl _, Nat.le_refl _⟩ : 6 + 1 ≤ (headSpec (.code yX7_named cX7_named 4 (some .int) :: e_tbl) rm7).room.frames ∧ 40 * (6 + 1) ≤ (headSpec (.code yX7_named cX7_named 4 (some .int) :: e_tbl) rm7).room.locals), ⟨Nat.zero_le _, Nat.zero_le _⟩, hinj, had, B.notSynchronized, hRO, rfl, rfl, B.returns⟩
  have hl := lv_entry ([Value.ref 0, .int a1].map (cv ad)) (n := 4) (Nat.le_of_ble_eq_true rfl)
  rw [lg_entry_eq]
  generalize (lg_sl ([Value.ref 0, .int a1].map (cv ad)) ++ List.replicate (4 - (lg_sl ([Value.ref 0, .int a1].map (cv ad))).length) Slot.unset).toArray = ls at hl ⊢
  have hl : lv_has ls 4 ([(0, Value.ref 0), (1, .int a1)].map (fun q => (q.1, cv ad q.2))) := hl
  refine nm_walk (Q := vx_MQ below (fun _ _ _ _ => False) (e_XC ad base D cA I1 L) ([Value.ref 0, .int a1].map (cv ad)).toArray s 1 6 (e_A base)) hC (by decide) hn hc h0 (fun b' e => ?_) (fun _ j => ?_) s.heap [] ls hP va_S.rf hl
  · rw [hf] at e
    cases e
  · obtain ⟨hx, hb, hml, hown, hts, hK, hbase, hR, hk, hinj, had, hlk, hRO, -, -, hrt⟩ := hC
    intro H locs ls hP hS hl
    refine nse_throw (cc := cX7_named) (pc := 65) (sa := ad 1006) (text := "no batter of that name") (A := fun q => base ≤ q) hx hb hst hown (hts _ (e_in 1113 (by decide +kernel) (by decide +kernel))) (hts _ (e_in 112 (by decide +kernel) (by decide +kernel))) (hRO.2.1 12 ("RunWorth", 357, "no batter of that name", 6) rfl) (ns_at hts hRO) hRO.2.2.2.2.2.1 hRO.2.2.2.2.2.2.1 hS (hl.1.trans hml.symm) dX7_named_65 dX7_named_68 dX7_named_69 dX7_named_72 dX7_named_75 (fun x hx => (ht x hx).elim) ?_ ?_ ?_ ?_ hlk (fun t ht1 ht2 ht3 => ⟨rfl, hP.kept (fun k q hk => ht3 q.1 (vx_lt hP hk)), Nat.le_trans hS.1 ht2, fun q h1 h2 => (ht3 q (Nat.lt_of_lt_of_le h1 hS.1)).trans (hS.2.1 q h1 h2)⟩) (fun z hz => hS.2.2 z hz) (Nat.le_refl _) (Nat.le_refl _)
    · show 5 < 7
      decide
    · show (([] : List Value).map fun v => v.category).sum + 82 ≤ 280
      decide
    · show 0 + 1 ≤ 1
      decide
    · show 0 + 6 ≤ 6
      decide
/-- RunWorthLaw.named: the name is found -/
theorem nl_found {l : Launch} {ad : Nat → Nat} {base : Nat} {D : va_G} {cA : Nat → ClassId} (hinj : ∀ i j, i < gN → j < gN → ad i = ad j → i = j) (had : ∀ i, i < gN → base ≤ ad i) {cnt b : Nat} {nm a1 : Int32} {I I1 : e_I} {L : e_L} (hn : nmN a1 I nm I1) (hc : cnt ≤ 9) (h0 : I1 23 0 = nI cnt) (hf : fnd (I1 8) nm cnt 0 = some b) :
    vx_Met l yL_named (.codeWith yL_named cL_named 4 (some .int) [(0, 9, 12, 13)] :: e_tbl) rm9 (e_Pc ad base D cA gN [.ref 0, .int a1, .ref 97] I L) (e_Qc ad base D cA gN (some (.int 0), I1, e_ul L 97 0 (nI b).toInt64)) (fun _ _ _ => False) 1 6 (e_A base) := by
  refine vx_ofWH (cc := cL_named) (maxL := 4) (ret := some .int) (hh := [(0, 9, 12, 13)]) (by decide) rfl ?_
  intro p e s m args below meth c s₁ B hml hv
  obtain ⟨rfl, hbase, hP, hK, hRO⟩ := hv
  have hts := atoms_spec (ws := .codeWith yL_named cL_named 4 (some .int) [(0, 9, 12, 13)] :: e_tbl) B.pre
  have hC : e_C (p, l, e, (headSpec (.codeWith yL_named cL_named 4 (some .int) [(0, 9, 12, 13)] :: e_tbl) rm9).room, s, m, ([Value.ref 0, .int a1, .ref 97].map (cv ad)).toArray, below, meth, c, 4, ad, base, D, cA, 1, 6, gN) cL_named RL 4 (some .int) 8 gN :=
    ⟨B.exec, B.bytes, hml, findClass_of_methodNamed B.named, fun w hw => hts w (List.mem_cons_of_mem _ hw), hK, hbase, (⟨Nat.le_refl _, Nat.le_refl _⟩ : 8 + 1 ≤ rm9.frames ∧ 40 * (8 + 1) ≤ rm9.locals), (⟨Nat.le_refl _, Nat.le_refl _⟩ : 1 ≤ rm9.cells ∧ 6 ≤ rm9.slots), hinj, had, B.notSynchronized, hRO, rfl, rfl, B.returns⟩
  have hl := lv_entry ([Value.ref 0, .int a1, .ref 97].map (cv ad)) (n := 4) (Nat.le_of_ble_eq_true rfl)
  rw [lg_entry_eq]
  generalize (lg_sl ([Value.ref 0, .int a1, .ref 97].map (cv ad)) ++ List.replicate (4 - (lg_sl ([Value.ref 0, .int a1, .ref 97].map (cv ad))).length) Slot.unset).toArray = ls at hl ⊢
  have hl : lv_has ls 4 ([(0, Value.ref 0), (1, .int a1), (2, .ref 97)].map (fun q => (q.1, cv ad q.2))) := hl
  refine W.widen (k := 1) (n := 6) (by decide) (by decide) (vx_ret ?_)
  have go : Z (p, l, e, (headSpec (.codeWith yL_named cL_named 4 (some .int) [(0, 9, 12, 13)] :: e_tbl) rm9).room, s, m, ([Value.ref 0, .int a1, .ref 97].map (cv ad)).toArray, below, meth, c, 4, ad, base, D, cA, 1, 6, gN) (e_Q (p, l, e, (headSpec (.codeWith yL_named cL_named 4 (some .int) [(0, 9, 12, 13)] :: e_tbl) rm9).room, s, m, ([Value.ref 0, .int a1, .ref 97].map (cv ad)).toArray, below, meth, c, 4, ad, base, D, cA, 1, 6, gN) (some (.int 0), I1, e_ul L 97 0 (nI b).toInt64)) 0 [(0, .ref 0), (1, .int a1), (2, .ref 97)] [] I L := by
    refine z_aload_n hC dN_0 rfl 2 rfl ?_
    refine z_iconst (v := 0) hC (by decide) dN_1 ?_
    refine z_aload_n hC dN_2 rfl 0 rfl ?_
    refine z_iload_n hC dN_3 rfl 1 rfl ?_
    refine z_callV hC (As := [.int a1]) (st := [.int 0, .ref 97]) (ci := 7) (r := (some (.int (nI b)), I1, L)) meN_7 mlN_7 imN_7 seN_7 rfl (by decide) at_0 (nm_found hn hc h0 hf) (by decide) rfl (Nat.le_of_ble_eq_true rfl) dN_4 rfl ?_
    refine z_i2l hC dN_7 ?_
    refine z_last (a := 97) (N := 1) (j := 0) hC (by unfold e_ar; decide) (e_ix_vp (by decide)) dN_8 ?_
    refine z_goto (tgt := 15) hC dN_9 (by decide) ?_
    refine z_iconst (v := 0) hC (by decide) dN_15 ?_
    exact z_iret hC dN_16
  exact go s.heap [] ls hP va_S.rf hl
/-! NAMED: caught; called by the law -/
theorem nl_none {l : Launch} (hst : l.stackTraces = false) {ad : Nat → Nat} {base : Nat} {D : va_G} {cA : Nat → ClassId} (hinj : ∀ i j, i < gN → j < gN → ad i = ad j → i = j) (had : ∀ i, i < gN → base ≤ ad i) {cnt : Nat} {nm a1 : Int32} {I I1 : e_I} {L : e_L} (hn : nmN a1 I nm I1) (hc : cnt ≤ 9) (h0 : I1 23 0 = nI cnt) (hf : fnd (I1 8) nm cnt 0 = none) :
    vx_Met l yL_named (.codeWith yL_named cL_named 4 (some .int) [(0, 9, 12, 13)] :: e_tbl) rm9 (e_Pc ad base D cA gN [.ref 0, .int a1, .ref 97] I L) (e_Qc ad base D cA gN (some (.int 1), I1, L)) (fun _ _ _ => False) 1 6 (e_A base) := by
  refine vx_ofWH (cc := cL_named) (maxL := 4) (ret := some .int) (hh := [(0, 9, 12, 13)]) (by decide) rfl ?_
  intro p e s m args below meth c s₁ B hml hv
  obtain ⟨rfl, hbase, hP, hK, hRO⟩ := hv
  have hts := atoms_spec (ws := .codeWith yL_named cL_named 4 (some .int) [(0, 9, 12, 13)] :: e_tbl) B.pre
  have hte : ∀ w ∈ e_tbl, w.before ([Value.ref 0, .int a1, .ref 97].map (cv ad)).toArray s = true := fun w hw => hts w (List.mem_cons_of_mem _ hw)
  have htab : c.exceptionTable.toList = [] ++ (⟨0, 9, 12, 13⟩ : ExceptionTableEntry) :: [] := (vx_table (x := yL_named) B (hts _ List.mem_cons_self)).trans rfl
  have hown : s.vm.findClass RL = some m.cls := findClass_of_methodNamed B.named
  have hC : ∀ k1 k2, k1 ≤ 1 → k2 ≤ 6 → e_C (p, l, e, (headSpec (.codeWith yL_named cL_named 4 (some .int) [(0, 9, 12, 13)] :: e_tbl) rm9).room, s, m, ([Value.ref 0, .int a1, .ref 97].map (cv ad)).toArray, below, meth, c, 4, ad, base, D, cA, k1, k2, gN) cL_named RL 4 (some .int) 8 gN := fun k1 k2 h1 h2 =>
    ⟨B.exec, B.bytes, hml, hown, hte, hK, hbase, (⟨Nat.le_refl _, Nat.le_refl _⟩ : 8 + 1 ≤ rm9.frames ∧ 40 * (8 + 1) ≤ rm9.locals), (⟨h1, h2⟩ : k1 ≤ rm9.cells ∧ k2 ≤ rm9.slots), hinj, had, B.notSynchronized, hRO, rfl, rfl, B.returns⟩
  have hl := lv_entry ([Value.ref 0, .int a1, .ref 97].map (cv ad)) (n := 4) (Nat.le_of_ble_eq_true rfl)
  rw [lg_entry_eq]
  generalize (lg_sl ([Value.ref 0, .int a1, .ref 97].map (cv ad)) ++ List.replicate (4 - (lg_sl ([Value.ref 0, .int a1, .ref 97].map (cv ad))).length) Slot.unset).toArray = ls at hl ⊢
  have hl : lv_has ls 4 ([(0, Value.ref 0), (1, .int a1), (2, .ref 97)].map (fun q => (q.1, cv ad q.2))) := hl
  refine vx_ret ?_
  have hC1 := hC 1 6 (Nat.le_refl _) (Nat.le_refl _)
  have hC0 := hC 0 0 (Nat.zero_le _) (Nat.zero_le _)
  -- behind the catch
  have fin : Z (p, l, e, (headSpec (.codeWith yL_named cL_named 4 (some .int) [(0, 9, 12, 13)] :: e_tbl) rm9).room, s, m, ([Value.ref 0, .int a1, .ref 97].map (cv ad)).toArray, below, meth, c, 4, ad, base, D, cA, 1, 6, gN) (e_Q (p, l, e, (headSpec (.codeWith yL_named cL_named 4 (some .int) [(0, 9, 12, 13)] :: e_tbl) rm9).room, s, m, ([Value.ref 0, .int a1, .ref 97].map (cv ad)).toArray, below, meth, c, 4, ad, base, D, cA, 1, 6, gN) (some (.int 1), I1, L)) 13 [] [] I1 L := by
    refine z_iconst (v := 1) hC1 (by decide) dN_13 ?_
    exact z_iret hC1 dN_14
  have go : Z (p, l, e, (headSpec (.codeWith yL_named cL_named 4 (some .int) [(0, 9, 12, 13)] :: e_tbl) rm9).room, s, m, ([Value.ref 0, .int a1, .ref 97].map (cv ad)).toArray, below, meth, c, 4, ad, base, D, cA, 0, 0, gN) (e_Q (p, l, e, (headSpec (.codeWith yL_named cL_named 4 (some .int) [(0, 9, 12, 13)] :: e_tbl) rm9).room, s, m, ([Value.ref 0, .int a1, .ref 97].map (cv ad)).toArray, below, meth, c, 4, ad, base, D, cA, 1, 6, gN) (some (.int 1), I1, L)) 0 [(0, .ref 0), (1, .int a1), (2, .ref 97)] [] I L := by
    refine z_aload_n hC0 dN_0 rfl 2 rfl ?_
    refine z_iconst (v := 0) hC0 (by decide) dN_1 ?_
    refine z_aload_n hC0 dN_2 rfl 0 rfl ?_
    refine z_iload_n hC0 dN_3 rfl 1 rfl ?_
    intro H locs ls hP hS hl'
    obtain ⟨m1, m2, m3, m4, m5⟩ := meN_7
    have hrecv : ∃ cell : Cell, H[ad 0]? = some cell ∧ cell.vm.isStatics = false ∧ s.vm.findClass RX7 = some cell.cls := va_recv hK hP (e_cl_at (ci := 7) (by decide)) (e_ws_obj at_0 (by decide))
    have hr := vx_runV (e := e) (below := below) (meth := meth) (R := (headSpec (.codeWith yL_named cL_named 4 (some .int) [(0, 9, 12, 13)] :: e_tbl) rm9).room) (args := ([Value.ref 0, .int a1, .ref 97].map (cv ad)).toArray) (locs := locs) (cells := 0) (slots := 0) (g := F0 m 4 ls ([Value.int a1, .ref 0, .int 0, .ref 97].map (cv ad))) (C := RX7) (b := ad 0) (As := [Value.int a1].map (cv ad)) (rest := [Value.int 0, .ref 97].map (cv ad)) (Ts := e_tbl) (bytes := cX7_named) (maxL := 4) (ret := some .int) (n := 1) (index := 7) (own := RL) ⟨B.exec, B.bytes, hml, hown, hte⟩ (nm_throws hst hinj had hn hc h0 hf (D := D) (cA := cA) (L := L)) ⟨⟨rfl, rfl, by decide, by decide, fun w hw a' U hW => by
      rcases List.mem_cons.mp hw with rfl | hw
      · exact e_good hte m1 a' U hW
      · exact e_good hte hw a' U hW, List.mem_cons_self, hte _ m1, hte _ m5, m3, e_np m4, hte _ mlN_7⟩, hte _ imN_7, hte _ seN_7⟩ ⟨e_blind, hrecv, e_pre (av := [.ref 0, .int a1]) hbase hP hK hRO hS⟩ rfl rfl hl'.1 rfl (lv_room (by rw [cv_cats]; decide)) dN_4 ⟨by decide, by decide⟩
    intro T hT XX
    rcases hr T hT XX with ⟨v, st₀, t, T', Lx, q0, X', hL, f1, f2, hfalse, st⟩ | ⟨q, st₀, t, T', Lx, E, ce, q0, X', hL, f1, f2, ⟨hE, hP1, hz, hk⟩, hce, hcv, hcl, st⟩
    · exact hfalse.elim
    · subst hE
      rw [q0] at hz hk
      have hS1 : va_S (e_A base) s.heap T'.heap (locs ++ Lx) := ⟨Nat.le_trans hS.1 (by rw [f1]; exact hz), fun q h1 h2 => by rw [f1, hk q (Nat.lt_of_lt_of_le h1 hS.1) h2]; exact hS.2.1 q h1 h2, fun q hq => by
        rcases List.mem_append.mp hq with h | h
        · exact hS.2.2 q h
        · exact hL q h⟩
      have hP2 : va_P D vwCl (e_ws ad cA gN I1 L) T'.heap := by rw [f1]; exact hP1
      have hcast : (Cond.castable nse nse).before ([Value.ref 0, .int a1, .ref 97].map (cv ad)).toArray s = true := by
        obtain ⟨-, -, -, -, -, -, -, -, h9, -⟩ := hRO
        exact va_Nw.use rfl h9
      have k := vx_catch (p := p) (l := l) (e := e) (R := (headSpec (.codeWith yL_named cL_named 4 (some .int) [(0, 9, 12, 13)] :: e_tbl) rm9).room) (args := ([Value.ref 0, .int a1, .ref 97].map (cv ad)).toArray) (below := below) (meth := meth) (H := T'.heap) (locs := locs ++ Lx) (cells := 0 + 1) (slots := 0 + 6) (pc := 4) (ls := ls) (rest := [Value.int 0, .ref 97].map (cv ad)) (own := RL) (name := nse) (E := nse) (ce := ce) (q := q)
        (Q := e_Q (p, l, e, (headSpec (.codeWith yL_named cL_named 4 (some .int) [(0, 9, 12, 13)] :: e_tbl) rm9).room, s, m, ([Value.ref 0, .int a1, .ref 97].map (cv ad)).toArray, below, meth, c, 4, ad, base, D, cA, 1, 6, gN) (some (.int 1), I1, L))
        hown [] (⟨0, 9, 12, 13⟩ : ExceptionTableEntry) [] htab (fun z hz => nomatch hz) (by decide) (by decide) (hte _ (e_in 1104 (by decide +kernel) (by decide +kernel))) hcast (by rw [f1]; exact hce) hcv hcl (by
          show W p l e _ s m _ below meth c T'.heap (locs ++ Lx) (0 + 1) (0 + 6) _ (F0 m 12 ls [.ref q])
          refine lv_astore_n (i := 3) (nL := 4) (lv' := _) B.exec B.bytes dN_12 rfl hl' (by decide) rfl (fun ls' hl'' => ?_)
          exact fin T'.heap (locs ++ Lx) ls' hP2 hS1 (lv_sub hl'' [] rfl))
      obtain ⟨t2, a1, b1⟩ := k T' rfl X'
      exact ⟨t2, st.trans a1, b1⟩
  exact go s.heap [] ls hP va_S.rf hl
section NLAW
variable {p : Program} {l : Launch} {e : Env} {s : State} {m : MethodId} {b : Nat} {below : List Frame} {meth : Method} {c : Code} {ad : Nat → Nat} {D : va_G} {cA : Nat → ClassId} {Q : State → Prop}
/-- the law's call of its own named -/
theorem nl_call {k1 k2 : Nat} {a1 r : Int32} {I I1 : e_I} {L L1 : e_L} {lv : List (Nat × Value)} (hC : e_C (e_XL p l e s m b below meth c ad D cA k1 k2) cL_law RL 7 (some .boolean) 40 gN) (h1 : k1 + 1 ≤ 601024) (h2 : k2 + 6 ≤ 7293034)
    (hM : vx_Met l yL_named (.codeWith yL_named cL_named 4 (some .int) [(0, 9, 12, 13)] :: e_tbl) rm9 (e_Pc ad s.heap.size D cA gN [.ref 0, .int a1, .ref 97] I L) (e_Qc ad s.heap.size D cA gN (some (.int r), I1, L1)) (fun _ _ _ => False) 1 6 (e_A s.heap.size))
    (k : Z (e_XL p l e s m b below meth c ad D cA (k1 + 1) (k2 + 6)) Q 1746 lv [.int r] I1 L1) : Z (e_XL p l e s m b below meth c ad D cA k1 k2) Q 1743 lv [.ref 97, .int a1, .ref 0] I L := by
  obtain ⟨hx, hb, hml, hown, hts, hK, hbase, hR, hk, hinj, had, hlk, hRO, -, -, hrt⟩ := hC
  intro H locs ls hP hS hl'
  have cw : (Cond.codeWith yL_named cL_named 4 (some .int) [(0, 9, 12, 13)]) ∈ e_tbl := e_in 1103 (by decide +kernel) (by decide +kernel)
  have hr := vx_runSX (e := e) (below := below) (meth := meth) (R := room_1) (args := #[Value.ref b]) (locs := locs) (cells := k1) (slots := k2) (g := F0 m 1743 ls ([Value.ref 97, .int a1, .ref 0].map (cv ad))) (As := [Value.ref 0, .int a1, .ref 97].map (cv ad)) (rest := []) (Ts := e_tbl) (bytes := cL_named) (maxL := 4) (ret := some .int) (hh := [(0, 9, 12, 13)]) (n := 3) (index := 178) (own := RL) ⟨hx, hb, hml, hown, hts⟩ hM
    ⟨⟨rfl, rfl, by decide, by decide, fun w hw a' U hW => by
      rcases List.mem_cons.mp hw with rfl | hw
      · exact e_good hts cw a' U hW
      · exact e_good hts hw a' U hW, List.mem_cons_self⟩, hts _ cw, hts _ (e_in 92 (by decide +kernel) (by decide +kernel)), ⟨by decide, by decide⟩, e_np (y := yL_named) (by decide +kernel), hts _ (e_in 1101 (by decide +kernel) (by decide +kernel)), hts _ (e_in 1102 (by decide +kernel) (by decide +kernel))⟩
    ⟨e_blind, e_pre (av := [.ref 0, .int a1, .ref 97]) hbase hP hK hRO hS⟩ rfl rfl hl'.1 rfl (lv_room (by decide)) dL_law_1743 ⟨h1, h2⟩
  intro T hT XX
  rcases hr T hT XX with ⟨v, st₀, t, T', Lx, q0, X', hL, f1, f2, ⟨hv, hP1, hz, hk⟩, st⟩ | ⟨q, st₀, t, T', Lx, E, ce, q0, X', hL, f1, f2, hfalse, hce, hcv, hcl, st⟩
  · have hv : v = some (.int r) := Outcome.returned.inj hv
    subst hv
    rw [q0] at hz hk
    have hS1 : va_S (e_A s.heap.size) s.heap T'.heap (locs ++ Lx) := ⟨Nat.le_trans hS.1 (by rw [f1]; exact hz), fun q h1 h2 => by rw [f1, hk q (Nat.lt_of_lt_of_le h1 hS.1) h2]; exact hS.2.1 q h1 h2, fun q hq => by
      rcases List.mem_append.mp hq with h | h
      · exact hS.2.2 q h
      · exact hL q h⟩
    obtain ⟨t2, a1, b1⟩ := k T'.heap (locs ++ Lx) ls (by rw [f1]; exact hP1) hS1 hl' T' rfl X'
    exact ⟨t2, st t2 a1, b1⟩
  · exact hfalse.elim
end NLAW
/-! NAMED: the law's case -/
def ST_nm (Rel Rel2 : e_I → e_L → Prop) : Prop := ∀ (a1 : Int32) (I : e_I) (L : e_L), Rel I L → ∃ (nm : Int32) (I1 J : e_I) (cnt : Nat), nmN a1 I nm I1 ∧ cnt ≤ 9 ∧ I1 23 0 = nI cnt ∧ (∀ b, fnd (I1 8) nm cnt 0 = some b → b ≤ 9 ∧ f_X8_named a1 I1 = some (nI b, J) ∧ J 83 0 = 0) ∧ (fnd (I1 8) nm cnt 0 = none → ∃ v, f_X8_named a1 I1 = some (v, J) ∧ J 83 0 = 1) ∧ Rel2 J L ∧ ∀ x, Rel2 J (e_ul L 97 0 x)
section NLAW2
variable {p : Program} {l : Launch} {e : Env} {s : State} {m : MethodId} {b : Nat} {below : List Frame} {meth : Method} {c : Code} {ad : Nat → Nat} {D : va_G} {cA : Nat → ClassId} {N : Nat} {xs : Nat → Int32} {Rel Rel2 : e_I → e_L → Prop}
theorem nl_rest {k1 k2 : Nat} {Q : State → Prop} {x a1 r v : Int32} {I1 J : e_I} {L1 : e_L} (hC : e_C (e_XL p l e s m b below meth c ad D cA k1 k2) cL_law RL 7 (some .boolean) 40 gN) (hX : e_SC (e_XL p l e s m b below meth c ad D cA k1 k2) N xs) (h1 : vp_in (x + 1) N) (e1 : xs (x + 1).toNatClampNeg = a1) (h8 : f_X8_named a1 I1 = some (v, J)) (ht : J 83 0 = r) (hv : r = 0 → lg_cmp (L1 97 0) v.toInt64 = 0)
    (k : Z (e_XL p l e s m b below meth c ad D cA k1 k2) Q 1817 [(0, .ref 4000), (1, .ref 0), (2, .ref 83), (3, .ref 97), (4, .int x), (5, .int r), (6, .int v)] [] J L1) : Z (e_XL p l e s m b below meth c ad D cA k1 k2) Q 1746 [(0, .ref 4000), (1, .ref 0), (2, .ref 83), (3, .ref 97), (4, .int x)] [.int r] I1 L1 := by
  have k' : Z (e_XL p l e s m b below meth c ad D cA k1 k2) Q 1788 [(6, .int v), (5, .int r), (0, .ref 4000), (1, .ref 0), (2, .ref 83), (3, .ref 97), (4, .int x)] [] J L1 := z_goto (tgt := 1817) hC dL_law_1788 (by decide) (Z.sub [2, 3, 4, 5, 6, 1, 0] rfl k)
  refine z_istore (lv' := [(5, .int r), (0, .ref 4000), (1, .ref 0), (2, .ref 83), (3, .ref 97), (4, .int x)]) hC dL_law_1746 (by decide) rfl ?_
  refine z_aload_n hC dL_law_1748 rfl 3 rfl ?_
  refine z_aload_n hC dL_law_1749 rfl 1 rfl ?_
  refine z_iload hC dL_law_1750 5 rfl ?_
  refine z_iconst (v := 1) hC (by decide) dL_law_1752 ?_
  refine z_iadd hC dL_law_1753 ?_
  refine z_sld hC hX h1 dL_law_1754 ?_
  rw [e1]
  refine zc_iI hC [.int a1] [] meN_8 mlN_183 imN_8 seN_8 rfl (by decide) at_83 (ci := 8) (T_X8_named a1 I1 L1 _ h8) (by decide) rfl (Nat.le_of_ble_eq_true rfl) dL_law_1755 rfl ?_
  refine z_istore (lv' := [(6, .int v), (5, .int r), (0, .ref 4000), (1, .ref 0), (2, .ref 83), (3, .ref 97), (4, .int x)]) hC dL_law_1758 (by decide) rfl ?_
  refine z_aload_n hC dL_law_1760 rfl 4 rfl ?_
  refine zc_i hC [] [] meN_t mlN_184 imN_t seN_t rfl (by decide) at_83 (ci := 8) (T_X8_thrown J L1 (J 83 0) rfl) (by decide) rfl (Nat.le_of_ble_eq_true rfl) dL_law_1761 rfl ?_
  refine z_iload hC dL_law_1764 1 rfl ?_
  refine z_icmp_eq (tgt := 1771) hC dL_law_1766 (by decide) (fun _ => ?_) (fun n => absurd ht n)
  refine z_iload hC dL_law_1771 1 rfl ?_
  refine z_if_ne (tgt := 1788) hC dL_law_1773 (by decide) (fun _ => k') (fun n => ?_)
  have r0 : r = 0 := by
    by_cases q : r = 0
    · exact q
    · exact absurd q n
  refine z_aload_n hC dL_law_1776 rfl 5 rfl ?_
  refine z_iconst (v := 0) hC (by decide) dL_law_1777 ?_
  refine z_lald (a := 97) (N := 1) (j := 0) hC (by unfold e_ar; decide) (e_ix_vp (by decide)) dL_law_1778 ?_
  refine z_iload hC dL_law_1779 0 rfl ?_
  refine z_i2l hC dL_law_1781 ?_
  refine z_lcmp hC dL_law_1782 ?_
  exact z_if_eq (tgt := 1788) hC dL_law_1783 (by decide) (fun _ => k') (fun n => absurd (hv r0) n)
theorem named_ok (hst : l.stackTraces = false) (hC : ∀ k1 k2, k1 ≤ 601024 → k2 ≤ 7293034 → e_C (e_XL p l e s m b below meth c ad D cA k1 k2) cL_law RL 7 (some .boolean) 40 gN) (hX : ∀ k1 k2, e_SC (e_XL p l e s m b below meth c ad D cA k1 k2) N xs) (hS : ST_nm Rel Rel2) : e_Named p l e s m b below meth c ad D cA N xs Rel Rel2 := by
  intro k1 k2 x a1 I L h1 h2 i1 e1 hrel k
  have hC0 := hC k1 k2 (by omega) (by omega)
  have hC1 := hC (k1 + 1) (k2 + 6) h1 h2
  obtain ⟨nm, I1, J, cnt, n1, n2, n3, n4, n5, n6, n7⟩ := hS a1 I L hrel
  obtain ⟨_, _, _, _, _, _, _, _, _, hinj, had, _⟩ := id hC0
  refine z_aload_n hC0 dL_law_1735 rfl 1 rfl ?_
  refine z_aload_n hC0 dL_law_1736 rfl 0 rfl ?_
  refine z_iload hC0 dL_law_1737 4 rfl ?_
  refine z_iconst (v := 1) hC0 (by decide) dL_law_1739 ?_
  refine z_iadd hC0 dL_law_1740 ?_
  refine z_sld hC0 (hX k1 k2) i1 dL_law_1741 ?_
  rw [e1]
  refine z_aload_n hC0 dL_law_1742 rfl 3 rfl ?_
  cases hf : fnd (I1 8) nm cnt 0 with
  | some bb =>
    obtain ⟨b9, h8, h0⟩ := n4 bb hf
    refine nl_call hC0 h1 h2 (nl_found hinj had n1 n2 n3 hf) (nl_rest hC1 (hX _ _) i1 e1 h8 h0 (fun _ => ?_) (k J _ _ (n7 _) ⟨_, _, rfl⟩))
    have e97 : e_ul L 97 0 (nI bb).toInt64 97 0 = (nI bb).toInt64 := ul_s
    rw [e97]
    exact lg_cmp_self _
  | none =>
    obtain ⟨v, h8, h0⟩ := n5 hf
    refine nl_call hC0 h1 h2 (nl_none hst hinj had n1 n2 n3 hf) (nl_rest hC1 (hX _ _) i1 e1 h8 h0 (fun q => absurd q (by decide)) (k J _ _ n6 ⟨_, _, rfl⟩))
end NLAW2
