/-! THE LAW'S LOOP -/
abbrev e_XL (p : Program) (l : Launch) (e : Env) (s : State) (m : MethodId) (b : Nat) (below : List Frame) (meth : Method) (c : Code) (ad : Nat → Nat) (D : va_G) (cA : Nat → ClassId) (k1 k2 : Nat) : e_X := (p, l, e, room_1, s, m, #[Value.ref b], below, meth, c, 7, ad, s.heap.size, D, cA, k1, k2, gN)
section LL
variable {p : Program} {l : Launch} {e : Env} {s : State} {m : MethodId} {b : Nat} {below : List Frame} {meth : Method} {c : Code} {ad : Nat → Nat} {D : va_G} {cA : Nat → ClassId} {N : Nat} {xs : Nat → Int32} {Rel : Nat → e_I → e_L → Prop}
theorem law_end {k1 k2 : Nat} {lv : List (Nat × Value)} {I : e_I} {L : e_L} (hC : e_C (e_XL p l e s m b below meth c ad D cA k1 k2) cL_law RL 7 (some .boolean) 40 gN) (h1 : k1 ≤ 601024) (h2 : k2 ≤ 7293034) : Z (e_XL p l e s m b below meth c ad D cA k1 k2) (lw_Z below #[Value.ref b] s) 1823 lv [] I L := by
  obtain ⟨hx, hb, hml, hown, hts, hK, hbase, hR, hk, hinj, had, hlk, hRO, -, -, hrt⟩ := hC
  intro H locs ls hP hS hl
  refine lv_iconst (v := 1) hx hb dL_law_1823 (by decide) ?_
  refine va_forget (fun q hq => hS.2.2 q hq) ?_
  refine W.widen (k := 601024) (n := 7293034) h1 h2 ?_
  exact lw_ret hx hb hrt hlk dL_law_1824
/-- the named case, to be walked by itself -/
def e_Named (p : Program) (l : Launch) (e : Env) (s : State) (m : MethodId) (b : Nat) (below : List Frame) (meth : Method) (c : Code) (ad : Nat → Nat) (D : va_G) (cA : Nat → ClassId) (N : Nat) (xs : Nat → Int32) (Rel Rel2 : e_I → e_L → Prop) : Prop :=
  ∀ (k1 k2 : Nat) (x a1 : Int32) (I : e_I) (L : e_L), k1 + 1 ≤ 601024 → k2 + 6 ≤ 7293034 → vp_in (x + 1) N → xs (x + 1).toNatClampNeg = a1 → Rel I L →
    (∀ (I : e_I) (L : e_L) (lv : List (Nat × Value)), Rel2 I L → (∃ y z, lv = [(0, .ref 4000), (1, .ref 0), (2, .ref 83), (3, .ref 97), (4, .int x), (5, .int y), (6, .int z)]) → Z (e_XL p l e s m b below meth c ad D cA (k1 + 1) (k2 + 6)) (lw_Z below #[Value.ref b] s) 1817 lv [] I L) →
    Z (e_XL p l e s m b below meth c ad D cA k1 k2) (lw_Z below #[Value.ref b] s) 1735 [(0, .ref 4000), (1, .ref 0), (2, .ref 83), (3, .ref 97), (4, .int x)] [] I L
theorem Z_mono {k1 k2 k1' k2' pc : Nat} {Q : State → Prop} {lv : List (Nat × Value)} {st : List Value} {I : e_I} {L : e_L} (h1 : k1 ≤ k1') (h2 : k2 ≤ k2') (k : Z (e_XL p l e s m b below meth c ad D cA k1' k2') Q pc lv st I L) : Z (e_XL p l e s m b below meth c ad D cA k1 k2) Q pc lv st I L := by
  intro H locs ls hP hS hl
  exact W.widen h1 h2 (k H locs ls hP hS hl)
theorem law_ix {x : Int32} {i N j : Nat} (hx : x = nI i) (h : i + 6 ≤ N) (hN : N ≤ 3072) (hj : j < 6) : vp_in (x + nI j) N := by
  rw [hx, nI_add]
  exact vp_in_nI (by omega) (by omega)
theorem law_gt {i N : Nat} (hi : i ≤ 3100) (hN : N ≤ 3072) (h : ¬ nI i > Int32.ofNat N - 6) : i + 6 ≤ N := by
  rcases Nat.lt_or_ge N (i + 6) with q | q
  · exfalso
    apply h
    show nI N - nI 6 < nI i
    have e1 : (nI N - nI 6).toInt = (N : Int) - 6 := pk_sub_toInt (by omega) (by omega)
    rw [Int32.lt_iff_toInt_lt, e1, nI_toInt (by omega)]
    omega
  · exact q
set_option maxRecDepth 100000 in
set_option maxHeartbeats 8000000 in
theorem law_loop (hmo : ∀ t I L, Rel t I L → Rel (t + 1) I L) (hS : ∀ t, t < 600 → e_Steps (Rel t) (Rel (t + 1))) (hC : ∀ k1 k2, k1 ≤ 601024 → k2 ≤ 7293034 → e_C (e_XL p l e s m b below meth c ad D cA k1 k2) cL_law RL 7 (some .boolean) 40 gN) (hX : ∀ k1 k2, e_SC (e_XL p l e s m b below meth c ad D cA k1 k2) N xs) (hN : N ≤ 3072) (hnamed : ∀ t, t < 600 → e_Named p l e s m b below meth c ad D cA N xs (Rel t) (Rel (t + 1))) :
    ∀ (n t i k1 k2 : Nat) (x : Int32), t + n = 600 → x = nI i → i ≤ N + 6 → N + 6 ≤ i + 6 * n → k1 + n ≤ 601024 → k2 + 6 * n ≤ 7293034 → ∀ (I : e_I) (L : e_L), Rel t I L → Z (e_XL p l e s m b below meth c ad D cA k1 k2) (lw_Z below #[Value.ref b] s) 23 [(0, .ref 4000), (1, .ref 0), (2, .ref 83), (3, .ref 97), (4, .int x)] [] I L := by
  intro n
  induction n with
  | zero =>
    intro t i k1 k2 x ht hx hi hn hk1 hk2 I L hrel
    have hC0 := hC k1 k2 (by omega) (by omega)
    refine z_iload hC0 dL_law_23 4 rfl ?_
    refine z_aload_n hC0 dL_law_25 rfl 0 rfl ?_
    refine z_slen hC0 (hX k1 k2) dL_law_26 ?_
    refine z_bipush (v := 6) hC0 (by decide) dL_law_27 ?_
    refine z_isub hC0 dL_law_29 ?_
    refine z_icmp_gt (tgt := 1823) hC0 dL_law_30 (by decide) (fun _ => law_end hC0 (by omega) (by omega)) (fun h => ?_)
    rw [hx] at h
    exact absurd (law_gt (by omega) hN h) (by omega)
  | succ n ih =>
    intro t i k1 k2 x ht hx hi hn hk1 hk2 I L hrel
    have hC0 := hC k1 k2 (by omega) (by omega)
    refine z_iload hC0 dL_law_23 4 rfl ?_
    refine z_aload_n hC0 dL_law_25 rfl 0 rfl ?_
    refine z_slen hC0 (hX k1 k2) dL_law_26 ?_
    refine z_bipush (v := 6) hC0 (by decide) dL_law_27 ?_
    refine z_isub hC0 dL_law_29 ?_
    refine z_icmp_gt (tgt := 1823) hC0 dL_law_30 (by decide) (fun _ => law_end hC0 (by omega) (by omega)) (fun h => ?_)
    rw [hx] at h
    have h6 := law_gt (by omega) hN h
    have i0 : vp_in x N := by rw [hx]; exact vp_in_nI (by omega) (by omega)
    have i1 : vp_in (x + 1) N := law_ix hx h6 hN (j := 1) (by decide)
    have i2 : vp_in (x + 2) N := law_ix hx h6 hN (j := 2) (by decide)
    have i3 : vp_in (x + 3) N := law_ix hx h6 hN (j := 3) (by decide)
    have i4 : vp_in (x + 4) N := law_ix hx h6 hN (j := 4) (by decide)
    have i5 : vp_in (x + 5) N := law_ix hx h6 hN (j := 5) (by decide)
    have go : ∀ (j1 j2 : Nat) (lv : List (Nat × Value)), k1 ≤ j1 → k2 ≤ j2 → j1 + n ≤ 601024 → j2 + 6 * n ≤ 7293034 → (lv = [(0, .ref 4000), (1, .ref 0), (2, .ref 83), (3, .ref 97), (4, .int x)] ∨ ∃ y z, lv = [(0, .ref 4000), (1, .ref 0), (2, .ref 83), (3, .ref 97), (4, .int x), (5, .int y), (6, .int z)]) → ∀ (I : e_I) (L : e_L), Rel (t + 1) I L → Z (e_XL p l e s m b below meth c ad D cA j1 j2) (lw_Z below #[Value.ref b] s) 1817 lv [] I L := by
      intro j1 j2 lv hj1 hj2 hj3 hj4 hlv I L hr
      have hC1 := hC j1 j2 (by omega) (by omega)
      have nx : Z (e_XL p l e s m b below meth c ad D cA j1 j2) (lw_Z below #[Value.ref b] s) 23 [(0, .ref 4000), (1, .ref 0), (2, .ref 83), (3, .ref 97), (4, .int (x + 6))] [] I L := ih (t + 1) (i + 6) j1 j2 (x + 6) (by omega) (by rw [hx]; exact nI_add i 6) (by omega) (by omega) hj3 hj4 I L hr
      rcases hlv with rfl | ⟨y, z, rfl⟩
      · refine z_iinc hC1 (x := x) (v := x + 6) (lv' := [(4, .int (x + 6)), (0, .ref 4000), (1, .ref 0), (2, .ref 83), (3, .ref 97)]) dL_law_1817 4 rfl rfl (by decide) rfl ?_
        refine z_goto (tgt := 23) hC1 dL_law_1820 (by decide) ?_
        exact Z.sub [1, 2, 3, 4, 0] rfl nx
      · refine z_iinc hC1 (x := x) (v := x + 6) (lv' := [(4, .int (x + 6)), (0, .ref 4000), (1, .ref 0), (2, .ref 83), (3, .ref 97), (5, .int y), (6, .int z)]) dL_law_1817 4 rfl rfl (by decide) rfl ?_
        refine z_goto (tgt := 23) hC1 dL_law_1820 (by decide) ?_
        exact Z.sub [1, 2, 3, 4, 0] rfl nx
    have hK : ∀ (I : e_I) (L : e_L), Rel (t + 1) I L → Z (e_XL p l e s m b below meth c ad D cA k1 k2) (lw_Z below #[Value.ref b] s) 1817 [(0, .ref 4000), (1, .ref 0), (2, .ref 83), (3, .ref 97), (4, .int x)] [] I L := fun I L hr => go k1 k2 _ (by omega) (by omega) (by omega) (by omega) (Or.inl rfl) I L hr
    refine z_aload_n hC0 dL_law_33 rfl 0 rfl ?_
    refine z_iload hC0 dL_law_34 4 rfl ?_
    refine z_sld hC0 (hX k1 k2) i0 dL_law_36 ?_
    refine z_bipush (v := 63) hC0 (by decide) dL_law_37 ?_
    refine z_iand hC0 dL_law_39 ?_
    generalize xs x.toNatClampNeg &&& 63 = v
    obtain ⟨s0, s1, s2, s3, s4, s5, s6, s7, s8, s9, s10, s11, s12, s13, s14, s15, s16, s17, s18, s19, s20, s21, s22, s23, s24, s25, s26, s27, s28, s29, s30, s31, s32, s33, s34, s35, s36, s37, s38⟩ := hS t (by omega)
    by_cases c0 : v = 0
    · refine z_tsw_in (tgt := 216) hC0 dL_law_40 (by rw [c0]; decide) (by rw [c0]; decide) (by rw [c0]; rfl) (by decide) ?_
      exact LC_feed hC0 (hX k1 k2) i1 rfl i2 rfl i3 rfl i4 rfl i5 rfl I L hrel s0 hK
    by_cases c1 : v = 1
    · refine z_tsw_in (tgt := 289) hC0 dL_law_40 (by rw [c1]; decide) (by rw [c1]; decide) (by rw [c1]; rfl) (by decide) ?_
      exact LC_text hC0 (hX k1 k2) i1 rfl I L hrel s1 hK
    by_cases c2 : v = 2
    · refine z_tsw_in (tgt := 314) hC0 dL_law_40 (by rw [c2]; decide) (by rw [c2]; decide) (by rw [c2]; rfl) (by decide) ?_
      exact LC_fault hC0 (hX k1 k2)  I L hrel s2 hK
    by_cases c3 : v = 3
    · refine z_tsw_in (tgt := 327) hC0 dL_law_40 (by rw [c3]; decide) (by rw [c3]; decide) (by rw [c3]; rfl) (by decide) ?_
      exact LC_where hC0 (hX k1 k2)  I L hrel s3 hK
    by_cases c4 : v = 4
    · refine z_tsw_in (tgt := 340) hC0 dL_law_40 (by rw [c4]; decide) (by rw [c4]; decide) (by rw [c4]; rfl) (by decide) ?_
      exact LC_about hC0 (hX k1 k2) i1 rfl I L hrel s4 hK
    by_cases c5 : v = 5
    · refine z_tsw_in (tgt := 365) hC0 dL_law_40 (by rw [c5]; decide) (by rw [c5]; decide) (by rw [c5]; rfl) (by decide) ?_
      exact LC_rule hC0 (hX k1 k2) i1 rfl I L hrel s5 hK
    by_cases c6 : v = 6
    · refine z_tsw_in (tgt := 390) hC0 dL_law_40 (by rw [c6]; decide) (by rw [c6]; decide) (by rw [c6]; rfl) (by decide) ?_
      exact LC_batter hC0 (hX k1 k2) i1 rfl i2 rfl I L hrel s6 hK
    by_cases c7 : v = 7
    · refine z_tsw_in (tgt := 427) hC0 dL_law_40 (by rw [c7]; decide) (by rw [c7]; decide) (by rw [c7]; rfl) (by decide) ?_
      exact LC_place hC0 (hX k1 k2) i1 rfl I L hrel s7 hK
    by_cases c8 : v = 8
    · refine z_tsw_in (tgt := 452) hC0 dL_law_40 (by rw [c8]; decide) (by rw [c8]; decide) (by rw [c8]; rfl) (by decide) ?_
      exact LC_coming hC0 (hX k1 k2) i1 rfl I L hrel s8 hK
    by_cases c9 : v = 9
    · refine z_tsw_in (tgt := 477) hC0 dL_law_40 (by rw [c9]; decide) (by rw [c9]; decide) (by rw [c9]; rfl) (by decide) ?_
      exact LC_chance hC0 (hX k1 k2) i1 rfl i2 rfl i3 rfl I L hrel s9 hK
    by_cases c10 : v = 10
    · refine z_tsw_in (tgt := 526) hC0 dL_law_40 (by rw [c10]; decide) (by rw [c10]; decide) (by rw [c10]; rfl) (by decide) ?_
      exact LC_after hC0 (hX k1 k2) i1 rfl i2 rfl i3 rfl i4 rfl I L hrel s10 hK
    by_cases c11 : v = 11
    · refine z_tsw_in (tgt := 587) hC0 dL_law_40 (by rw [c11]; decide) (by rw [c11]; decide) (by rw [c11]; rfl) (by decide) ?_
      exact LC_plain hC0 (hX k1 k2) i1 rfl i2 rfl i3 rfl i4 rfl I L hrel s11 hK
    by_cases c12 : v = 12
    · refine z_tsw_in (tgt := 649) hC0 dL_law_40 (by rw [c12]; decide) (by rw [c12]; decide) (by rw [c12]; rfl) (by decide) ?_
      exact LC_any hC0 (hX k1 k2) i1 rfl i2 rfl i3 rfl i4 rfl I L hrel s12 hK
    by_cases c13 : v = 13
    · refine z_tsw_in (tgt := 711) hC0 dL_law_40 (by rw [c13]; decide) (by rw [c13]; decide) (by rw [c13]; rfl) (by decide) ?_
      exact LC_wise hC0 (hX k1 k2) i1 rfl i2 rfl i3 rfl i4 rfl I L hrel s13 hK
    by_cases c14 : v = 14
    · refine z_tsw_in (tgt := 773) hC0 dL_law_40 (by rw [c14]; decide) (by rw [c14]; decide) (by rw [c14]; rfl) (by decide) ?_
      exact LC_choice hC0 (hX k1 k2) i1 rfl i2 rfl i3 rfl I L hrel s14 hK
    by_cases c15 : v = 15
    · refine z_tsw_in (tgt := 822) hC0 dL_law_40 (by rw [c15]; decide) (by rw [c15]; decide) (by rw [c15]; rfl) (by decide) ?_
      exact LC_chosen hC0 (hX k1 k2) i1 rfl i2 rfl i3 rfl i4 rfl i5 rfl I L hrel s15 hK
    by_cases c16 : v = 16
    · refine z_tsw_in (tgt := 896) hC0 dL_law_40 (by rw [c16]; decide) (by rw [c16]; decide) (by rw [c16]; rfl) (by decide) ?_
      exact LC_breaksEven hC0 (hX k1 k2) i1 rfl i2 rfl i3 rfl I L hrel s16 hK
    by_cases c17 : v = 17
    · refine z_tsw_in (tgt := 945) hC0 dL_law_40 (by rw [c17]; decide) (by rw [c17]; decide) (by rw [c17]; rfl) (by decide) ?_
      exact LC_table hC0 (hX k1 k2) i1 rfl i2 rfl i3 rfl i4 rfl I L hrel s17 hK
    by_cases c18 : v = 18
    · refine z_tsw_in (tgt := 1007) hC0 dL_law_40 (by rw [c18]; decide) (by rw [c18]; decide) (by rw [c18]; rfl) (by decide) ?_
      exact LC_worth hC0 (hX k1 k2) i1 rfl i2 rfl I L hrel s18 hK
    by_cases c19 : v = 19
    · refine z_tsw_in (tgt := 1045) hC0 dL_law_40 (by rw [c19]; decide) (by rw [c19]; decide) (by rw [c19]; rfl) (by decide) ?_
      exact LC_best hC0 (hX k1 k2) i1 rfl i2 rfl I L hrel s19 hK
    by_cases c20 : v = 20
    · refine z_tsw_in (tgt := 1083) hC0 dL_law_40 (by rw [c20]; decide) (by rw [c20]; decide) (by rw [c20]; rfl) (by decide) ?_
      exact LC_bestAt hC0 (hX k1 k2) i1 rfl i2 rfl I L hrel s20 hK
    by_cases c21 : v = 21
    · refine z_tsw_in (tgt := 1120) hC0 dL_law_40 (by rw [c21]; decide) (by rw [c21]; decide) (by rw [c21]; rfl) (by decide) ?_
      exact LC_exchanged hC0 (hX k1 k2) i1 rfl i2 rfl i3 rfl I L hrel s21 hK
    by_cases c22 : v = 22
    · refine z_tsw_in (tgt := 1169) hC0 dL_law_40 (by rw [c22]; decide) (by rw [c22]; decide) (by rw [c22]; rfl) (by decide) ?_
      exact LC_log hC0 (hX k1 k2) i1 rfl i2 rfl I L hrel s22 hK
    by_cases c23 : v = 23
    · refine z_tsw_in (tgt := 1206) hC0 dL_law_40 (by rw [c23]; decide) (by rw [c23]; decide) (by rw [c23]; rfl) (by decide) ?_
      exact LC_added hC0 (hX k1 k2) i1 rfl i2 rfl i3 rfl I L hrel s23 hK
    by_cases c24 : v = 24
    · refine z_tsw_in (tgt := 1256) hC0 dL_law_40 (by rw [c24]; decide) (by rw [c24]; decide) (by rw [c24]; rfl) (by decide) ?_
      exact LC_credit hC0 (hX k1 k2) i1 rfl i2 rfl i3 rfl I L hrel s24 hK
    by_cases c25 : v = 25
    · refine z_tsw_in (tgt := 1306) hC0 dL_law_40 (by rw [c25]; decide) (by rw [c25]; decide) (by rw [c25]; rfl) (by decide) ?_
      exact LC_all hC0 (hX k1 k2) i1 rfl i2 rfl I L hrel s25 hK
    by_cases c26 : v = 26
    · refine z_tsw_in (tgt := 1344) hC0 dL_law_40 (by rw [c26]; decide) (by rw [c26]; decide) (by rw [c26]; rfl) (by decide) ?_
      exact LC_innings hC0 (hX k1 k2) i1 rfl i2 rfl i3 rfl i4 rfl I L hrel s26 hK
    by_cases c27 : v = 27
    · refine z_tsw_in (tgt := 1421) hC0 dL_law_40 (by rw [c27]; decide) (by rw [c27]; decide) (by rw [c27]; rfl) (by decide) ?_
      exact LC_event hC0 (hX k1 k2) i1 rfl I L hrel s27 hK
    by_cases c28 : v = 28
    · refine z_tsw_in (tgt := 1446) hC0 dL_law_40 (by rw [c28]; decide) (by rw [c28]; decide) (by rw [c28]; rfl) (by decide) ?_
      exact LC_play hC0 (hX k1 k2) i1 rfl i2 rfl i3 rfl I L hrel s28 hK
    by_cases c29 : v = 29
    · refine z_tsw_in (tgt := 1511) hC0 dL_law_40 (by rw [c29]; decide) (by rw [c29]; decide) (by rw [c29]; rfl) (by decide) ?_
      exact LC_relieve hC0 (hX k1 k2)  I L hrel s29 hK
    by_cases c30 : v = 30
    · refine z_tsw_in (tgt := 1524) hC0 dL_law_40 (by rw [c30]; decide) (by rw [c30]; decide) (by rw [c30]; rfl) (by decide) ?_
      exact LC_begin hC0 (hX k1 k2)  I L hrel s30 hK
    by_cases c31 : v = 31
    · refine z_tsw_in (tgt := 1537) hC0 dL_law_40 (by rw [c31]; decide) (by rw [c31]; decide) (by rw [c31]; rfl) (by decide) ?_
      exact LC_swap hC0 (hX k1 k2) i1 rfl i2 rfl I L hrel s31 hK
    by_cases c32 : v = 32
    · refine z_tsw_in (tgt := 1574) hC0 dL_law_40 (by rw [c32]; decide) (by rw [c32]; decide) (by rw [c32]; rfl) (by decide) ?_
      exact LC_lay hC0 (hX k1 k2) i1 rfl I L hrel s32 hK
    by_cases c33 : v = 33
    · refine z_tsw_in (tgt := 1599) hC0 dL_law_40 (by rw [c33]; decide) (by rw [c33]; decide) (by rw [c33]; rfl) (by decide) ?_
      exact LC_better hC0 (hX k1 k2) i1 rfl I L hrel s33 hK
    by_cases c34 : v = 34
    · refine z_tsw_in (tgt := 1624) hC0 dL_law_40 (by rw [c34]; decide) (by rw [c34]; decide) (by rw [c34]; rfl) (by decide) ?_
      exact LC_shift hC0 (hX k1 k2) i1 rfl i2 rfl i3 rfl i4 rfl I L hrel s34 hK
    by_cases c35 : v = 35
    · refine z_tsw_in (tgt := 1685) hC0 dL_law_40 (by rw [c35]; decide) (by rw [c35]; decide) (by rw [c35]; rfl) (by decide) ?_
      exact LC_become hC0 (hX k1 k2) i1 rfl i2 rfl I L hrel s35 hK
    by_cases c36 : v = 36
    · refine z_tsw_in (tgt := 1722) hC0 dL_law_40 (by rw [c36]; decide) (by rw [c36]; decide) (by rw [c36]; rfl) (by decide) ?_
      exact LC_undo hC0 (hX k1 k2)  I L hrel s36 hK
    by_cases c37 : v = 37
    · refine z_tsw_in (tgt := 1735) hC0 dL_law_40 (by rw [c37]; decide) (by rw [c37]; decide) (by rw [c37]; rfl) (by decide) ?_
      exact hnamed t (by omega) k1 k2 x _ I L (by omega) (by omega) i1 rfl hrel (fun I L lv hr hlv => go (k1 + 1) (k2 + 6) lv (by omega) (by omega) (by omega) (by omega) (Or.inr hlv) I L hr)
    by_cases c38 : v = 38
    · refine z_tsw_in (tgt := 1791) hC0 dL_law_40 (by rw [c38]; decide) (by rw [c38]; decide) (by rw [c38]; rfl) (by decide) ?_
      exact LC_size hC0 (hX k1 k2)  I L hrel s37 hK
    by_cases c39 : v = 39
    · refine z_tsw_in (tgt := 1804) hC0 dL_law_40 (by rw [c39]; decide) (by rw [c39]; decide) (by rw [c39]; rfl) (by decide) ?_
      exact LC_trouble hC0 (hX k1 k2)  I L hrel s38 hK
    refine z_tsw_out (tgt := 1817) hC0 dL_law_40 (by have q0 := e_sw (n := 0) (by decide) (by decide) c0; have q1 := e_sw (n := 1) (by decide) (by decide) c1; have q2 := e_sw (n := 2) (by decide) (by decide) c2; have q3 := e_sw (n := 3) (by decide) (by decide) c3; have q4 := e_sw (n := 4) (by decide) (by decide) c4; have q5 := e_sw (n := 5) (by decide) (by decide) c5; have q6 := e_sw (n := 6) (by decide) (by decide) c6; have q7 := e_sw (n := 7) (by decide) (by decide) c7; have q8 := e_sw (n := 8) (by decide) (by decide) c8; have q9 := e_sw (n := 9) (by decide) (by decide) c9; have q10 := e_sw (n := 10) (by decide) (by decide) c10; have q11 := e_sw (n := 11) (by decide) (by decide) c11; have q12 := e_sw (n := 12) (by decide) (by decide) c12; have q13 := e_sw (n := 13) (by decide) (by decide) c13; have q14 := e_sw (n := 14) (by decide) (by decide) c14; have q15 := e_sw (n := 15) (by decide) (by decide) c15; have q16 := e_sw (n := 16) (by decide) (by decide) c16; have q17 := e_sw (n := 17) (by decide) (by decide) c17; have q18 := e_sw (n := 18) (by decide) (by decide) c18; have q19 := e_sw (n := 19) (by decide) (by decide) c19; have q20 := e_sw (n := 20) (by decide) (by decide) c20; have q21 := e_sw (n := 21) (by decide) (by decide) c21; have q22 := e_sw (n := 22) (by decide) (by decide) c22; have q23 := e_sw (n := 23) (by decide) (by decide) c23; have q24 := e_sw (n := 24) (by decide) (by decide) c24; have q25 := e_sw (n := 25) (by decide) (by decide) c25; have q26 := e_sw (n := 26) (by decide) (by decide) c26; have q27 := e_sw (n := 27) (by decide) (by decide) c27; have q28 := e_sw (n := 28) (by decide) (by decide) c28; have q29 := e_sw (n := 29) (by decide) (by decide) c29; have q30 := e_sw (n := 30) (by decide) (by decide) c30; have q31 := e_sw (n := 31) (by decide) (by decide) c31; have q32 := e_sw (n := 32) (by decide) (by decide) c32; have q33 := e_sw (n := 33) (by decide) (by decide) c33; have q34 := e_sw (n := 34) (by decide) (by decide) c34; have q35 := e_sw (n := 35) (by decide) (by decide) c35; have q36 := e_sw (n := 36) (by decide) (by decide) c36; have q37 := e_sw (n := 37) (by decide) (by decide) c37; have q38 := e_sw (n := 38) (by decide) (by decide) c38; have q39 := e_sw (n := 39) (by decide) (by decide) c39; omega) (by decide) ?_
    exact hK I L (hmo t I L hrel)
end LL
