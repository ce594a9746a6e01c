-- TEXT: the call
theorem by8_ok : ∀ k, k < 256 → byt ((Int8.ofNat k).toInt32) (r_n ((Int8.ofNat k).toInt32 &&& 255)) ∧ (Int8.ofNat k).toInt32 &&& 255 = nI (r_n ((Int8.ofNat k).toInt32 &&& 255)) := by
  unfold byt
  decide +kernel
theorem by8 {x : Int32} (h : x = x.toInt8.toInt32) : byt x (r_n (x &&& 255)) ∧ x &&& 255 = nI (r_n (x &&& 255)) := by
  have e : x.toInt8 = Int8.ofNat (x.toInt8.toBitVec.toNat) := by
    apply Int8.toBitVec_inj.mp
    show x.toInt8.toBitVec = BitVec.ofNat 8 x.toInt8.toBitVec.toNat
    apply BitVec.eq_of_toNat_eq
    rw [BitVec.toNat_ofNat, Nat.mod_eq_of_lt x.toInt8.toBitVec.isLt]
  have k := by8_ok x.toInt8.toBitVec.toNat x.toInt8.toBitVec.isLt
  rw [← e, ← h] at k
  exact k
theorem keys_ok : ∀ i, i < 6 → k_U [277693196, 65782373, 4723, 10494723, 400712, 29637648] i = nI (r_code (kw i)) := by decide +kernel
theorem C_o39 {k58 : e_I → Option e_I} : ∀ m i n I, i + m = 9 → m < n → ∃ J, f_X0_openWith_39 23 k58 n (nI i) I = k58 J ∧ fr (fun a x => a = 26 ∧ i ≤ x) I J ∧ ∀ x, i ≤ x → x < 9 → J 26 x = nI x := by
  intro m
  induction m with
  | zero =>
    intro i n I h0 hn
    obtain ⟨n', rfl⟩ : ∃ k, n = k + 1 := ⟨n - 1, by omega⟩
    have h0 : i = 9 := h0
    subst h0
    exact ⟨I, rfl, fr_rfl, fun x h1 h2 => by omega⟩
  | succ m ih =>
    intro i n I h0 hn
    obtain ⟨n', rfl⟩ : ∃ k, n = k + 1 := ⟨n - 1, by omega⟩
    have lt : ¬ nI i ≥ 9 := c_ge (N := 9) (by omega) (by decide)
    have ix : e_ix (nI i) 9 = true := nI_ix (by omega) (by omega)
    obtain ⟨J, e, f1, f2⟩ := ih (i + 1) n' (e_ui I 26 i (nI i)) (by omega) (by omega)
    refine ⟨J, ?_, fr_tr (fr_ui ⟨rfl, Nat.le_refl i⟩) (fr_mono (fun a x z => ⟨z.1, by omega⟩) f1), fun x h1 h2 => ?_⟩
    · rw [f_X0_openWith_39, if_neg lt]
      unfold e_as
      rw [if_pos ix, let_eq, let_eq, nI_1 i, nI_clamp (n := i) (by omega)]
      exact e
    · by_cases q : x = i
      · subst q
        rw [f1 26 x (fun z => by omega)]
        exact ui_s
      · exact f2 x (by omega) h2
theorem C_open {I : e_I} : ∃ J, f_X0_openWith 23 I = some J ∧ (∀ a i, a < 23 ∨ 26 < a → J a i = I a i) ∧ (J 23 0 = I 1 4 ∧ J 23 1 = 1 ∧ J 23 2 = nI 0 ∧ J 23 3 = 0 ∧ J 23 4 = nI 0 ∧ J 23 5 = nI 0 ∧ J 23 6 = nI 0 ∧ J 23 7 = nI 0) ∧ (∀ k, k < 54 → J 24 k = I 3 k) ∧ (∀ k, k < 5 → J 25 k = I 4 k) ∧ ∀ k, k < 9 → J 26 k = nI k := by
  have t0 : (0 : Int32).toNatClampNeg = 0 := rfl
  have t54 : (54 : Int32).toNatClampNeg = 54 := rfl
  have t5 : (5 : Int32).toNatClampNeg = 5 := rfl
  obtain ⟨J1, e1', f1, f2⟩ := C_o39 (k58 := (fun (I_4 : e_I) => e_b1 (f_X0_beginAnew 23 I_4) (fun (I_5 : e_I) => some I_5))) 9 0 e_FU (e_cpy (e_cpy (e_ui I 23 0 (I 1 4)) 3 0 24 0 54) 4 0 25 0 5) rfl (wp_FU (by decide))
  obtain ⟨J, e2', g1, g0, g2, g3, g4, g5, g6, g7, g8⟩ := C_beginAnew (I := J1) (g := 23)
  have u : ∀ a i, a ≠ 23 → a ≠ 24 → a ≠ 25 → a ≠ 26 → J1 a i = I a i := fun a i h1 h2 h3 h4 => by
    rw [f1 a i (fun z => h4 z.1), cpy_a h3, cpy_a h2, ui_a h1]
  refine ⟨J, ?_, fun a i h => (g1 a i (by omega)).trans (u a i (by omega) (by omega) (by omega) (by omega)), ⟨?_, g2, g3, g4, ?_, g6, g7, g8⟩, fun k hk => ?_, fun k hk => ?_, fun k hk => (g1 26 k (by decide)).trans (f2 k (Nat.zero_le k) hk)⟩
  · unfold f_X0_openWith
    rw [t0, t54, t5, let_eq, let_eq, let_eq]
    have e1' : f_X0_openWith_39 23 _ e_FU 0 _ = _ := e1'
    rw [e1', e2', r_b1]
  · rw [g0, f1 23 0 (fun z => by cases z.1), cpy_a (by decide), cpy_a (by decide)]
    exact ui_s
  · exact g5.trans (f2 0 (Nat.zero_le 0) (by decide))
  · rw [g1 24 k (by decide), f1 24 k (fun z => by cases z.1), cpy_a (by decide), cpy_s hk, ui_a (by decide)]
  · rw [g1 25 k (by decide), f1 25 k (fun z => by cases z.1), cpy_s hk, cpy_a (by decide), ui_a (by decide)]
theorem text_in {I : e_I} {v : Int32} (h : r_tape I) (hv : 0 ≤ v ∧ v ≤ I 1 3) : ∃ N, v = nI N ∧ N ≤ 500 ∧ cT I N (fun i => r_n (I 84 i)) ∧ mT I N (fun i => r_n (I 84 i)) ∧ keysT I ∧ e_max 0 (e_min (nI N) (I 1 3)) = nI N := by
  obtain ⟨⟨s1, s2, s3⟩, tb, keys⟩ := h
  obtain ⟨e, hn⟩ := nI_rn (n := 500) s2 s3 rfl
  obtain ⟨N, hN, rfl⟩ := nI_of (Int32.not_lt.mpr hv.1)
  have le : N ≤ r_n (I 1 3) := by
    have := hv.2
    rw [e] at this
    exact (nI_leI hN (by omega)).mp this
  refine ⟨N, rfl, by omega, fun i hi => ?_, fun i hi => ?_, fun i hi => (keys i hi).trans (keys_ok i hi), ?_⟩
  · obtain ⟨b1, b2⟩ := tb i (by omega)
    show byt (I 5 i) (r_n (I 84 i))
    rw [b1]
    exact (by8 b2).1
  · obtain ⟨b1, b2⟩ := tb i (by omega)
    have k := by8 b2
    show I 84 i = nI (r_n (I 84 i)) ∧ r_n (I 84 i) < 256
    rw [b1]
    exact ⟨k.2, k.1.1⟩
  · rw [e, nI_min (by omega) (by omega), show min N (r_n (I 1 3)) = N by omega]
    exact (nI_max (a := 0) (b := N) (by decide) (by omega)).trans (by rw [show max 0 N = N by omega])
-- TEXT: both begin a game
theorem C_cells {cnt : Nat} {X J0 : e_I} (sh : SH cnt X J0) : ∃ W, (e_b1 (f_X0_openWith 23 (e_cpy X 2 0 8 0 9)) (fun (I_5 : e_I) => e_b1 (f_X4_forget I_5) (fun (I_6 : e_I) => e_b1 (f_X7_fitMoves I_6) (fun (I_7 : e_I) => some ((I_7 23 0), I_7))))) = some (nI cnt, W) ∧ (W 23 0 = nI cnt ∧ W 23 1 = 1 ∧ W 23 2 = nI 0 ∧ W 23 3 = 0 ∧ W 23 4 = nI 0 ∧ W 23 5 = nI 0 ∧ W 23 6 = nI 0 ∧ W 23 7 = nI 0) ∧ (∀ k, k < 54 → W 24 k = X 3 k) ∧ (∀ k, k < 5 → W 25 k = X 4 k) ∧ (∀ k, k < 9 → W 26 k = nI k) ∧ (∀ k, k < 9 → W 8 k = X 2 k) ∧ W 9 2 = 0 ∧ c_T W (r_n (X 4 0)) (r_n (X 4 1)) (r_n (X 4 2)) ∧ (∀ a i, a ≠ 8 → ¬ (a = 9 ∧ i = 2) → a ≠ 12 → a ≠ 13 → a ≠ 14 → (a < 23 ∨ 26 < a) → W a i = X a i) := by
  obtain ⟨⟨c9, x4, _⟩, _, ru, _⟩ := sh
  obtain ⟨v0, r0, _, lo0, hi0⟩ := ru 0 (by decide)
  obtain ⟨v1, r1, _, lo1, hi1⟩ := ru 1 (by decide)
  obtain ⟨v2, r2, _, lo2, hi2⟩ := ru 2 (by decide)
  have e0 : rlo 0 = 1 ∧ rhi 0 = 2 ∧ rlo 1 = 2 ∧ rhi 1 = 3 ∧ rlo 2 = 0 ∧ rhi 2 = 1 := by decide
  obtain ⟨Z, eZ, z1, ⟨zc, z2, z3, z4, z5, z6, z7, z8⟩, z24, z25, z26⟩ := C_open (I := e_cpy X 2 0 8 0 9)
  have cz : e_cpy X 2 0 8 0 9 1 4 = X 1 4 := cpy_a (by decide)
  have rv : RV v0 v1 v2 := ⟨⟨by omega, by omega⟩, ⟨by omega, by omega⟩, by omega⟩
  have f25 : ∀ k, k < 5 → (e_ui Z 9 2 0) 25 k = X 4 k := fun k hk => (ui_a (by decide)).trans ((z25 k hk).trans (cpy_a (by decide)))
  obtain ⟨W, eW, w1, w2⟩ := c_fits (I := e_ui Z 9 2 0) rv
  have w1 : fr c_S (e_ui Z 9 2 0) W := w1
  have o : ∀ a i, ¬ (a = 9 ∧ i = 2) → a ≠ 12 → a ≠ 13 → a ≠ 14 → W a i = Z a i := fun a i h1 h2 h3 h4 => by
    rw [w1 a i (fun z => by rcases z with z | z | z <;> omega)]
    by_cases q : a = 9
    · subst q
      exact ui_i (fun z => h1 ⟨rfl, z⟩)
    · exact ui_a q
  have fm : f_X7_fitMoves (e_ui Z 9 2 0) = some W := by
    unfold f_X7_fitMoves
    rw [show f_X0_ruled 23 0 (e_ui Z 9 2 0) = _ from C_ruledAt (x := 0) (by decide), r_b1, show f_X0_ruled 23 1 (e_ui Z 9 2 0) = _ from C_ruledAt (x := 1) (by decide), r_b1, show f_X0_ruled 23 2 (e_ui Z 9 2 0) = _ from C_ruledAt (x := 2) (by decide), r_b1, f25 0 (by decide), f25 1 (by decide), f25 2 (by decide), r0, r1, r2, eW, r_b1]
  have o23 : ∀ i, W 23 i = Z 23 i := fun i => o 23 i (fun z => by cases z.1) (by decide) (by decide) (by decide)
  refine ⟨W, ?_, ⟨?_, ?_, ?_, ?_, ?_, ?_, ?_, ?_⟩, fun k hk => ?_, fun k hk => ?_, fun k hk => ?_, fun k hk => ?_, ?_, ?_, fun a i h1 h2 h3 h4 h5 h6 => ?_⟩
  · rw [eZ, r_b1]
    unfold f_X4_forget
    rw [let_eq, r_b1, fm, r_b1, o23, zc, cz, x4]
  · rw [o23, zc, cz, x4]
  · rw [o23, z2]
  · rw [o23, z3]
  · rw [o23, z4]
  · rw [o23, z5]
  · rw [o23, z6]
  · rw [o23, z7]
  · rw [o23, z8]
  · rw [o 24 k (fun z => by cases z.1) (by decide) (by decide) (by decide), z24 k hk, cpy_a (by decide)]
  · rw [o 25 k (fun z => by cases z.1) (by decide) (by decide) (by decide), z25 k hk, cpy_a (by decide)]
  · rw [o 26 k (fun z => by cases z.1) (by decide) (by decide) (by decide), z26 k hk]
  · rw [o 8 k (fun z => by cases z.1) (by decide) (by decide) (by decide), z1 8 k (by decide), cpy_s hk]
  · rw [w1 9 2 (fun z => by rcases z with z | z | z <;> omega)]
    exact ui_s
  · rw [r0, r1, r2, nI_r (by omega), nI_r (by omega), nI_r (by omega)]
    exact w2
  · rw [o a i h2 h3 h4 h5, z1 a i h6, cpy_a h1]
theorem M_cells {cnt : Nat} {I0 J : e_I} (sh : SH cnt I0 J) (hc : 0 < cnt) : ∃ K, (e_let (e_ui J 83 6 1) (fun (I_11 : e_I) => e_let (e_ui I_11 83 33 0) (fun (I_12 : e_I) => e_b1 (f_X8_lays 85 86 0 0 396 I_12) (fun (I_13 : e_I) => e_b1 (f_X8_lays 87 88 0 0 54 I_13) (fun (I_14 : e_I) => e_b1 (f_X8_begins 85 I_14) (fun (I_15 : e_I) => some ((I_15 85 (0 : Int32).toNatClampNeg), I_15))))))) = some (nI cnt, K) ∧ (∀ i, i < 69 → K 85 i = J 86 i) ∧ (K 85 69 = 1 ∧ K 85 70 = 0 ∧ K 85 71 = 0 ∧ K 85 72 = nI 0 ∧ K 85 73 = 0 ∧ K 85 74 = 0 ∧ K 85 75 = 0) ∧ (∀ i, i < 54 → K 87 i = J 88 i) ∧ K 83 6 = 1 ∧ K 83 33 = 0 ∧ (∀ a i, a ≠ 85 → a ≠ 87 → ¬ (a = 83 ∧ (i = 6 ∨ i = 33)) → K a i = J a i) := by
  have t0 : (0 : Int32).toNatClampNeg = 0 := rfl
  obtain ⟨⟨c9, _, j0⟩, _, _, bt⟩ := sh
  have k60 : J 86 60 = nI 0 := (bt 0 hc).2.1
  have l85 : e_ln 85 = 396 := rfl
  have l86 : e_ln 86 = 396 := rfl
  have l87 : e_ln 87 = 54 := rfl
  have l88 : e_ln 88 = 54 := rfl
  obtain ⟨J2, e2', f1, f2⟩ := M_lays (I := e_ui (e_ui J 83 6 1) 83 33 0) (a0 := 85) (a2 := 86) (x := 0) (y := 0) (n := 396) (by decide) (by omega) (by omega) (by decide) (by decide)
  obtain ⟨J3, e3, g1, g2⟩ := M_lays (I := J2) (a0 := 87) (a2 := 88) (x := 0) (y := 0) (n := 54) (by decide) (by omega) (by omega) (by decide) (by decide)
  obtain ⟨K, e4, h1, h2, h69, h70, h71, h72, h73, h74, h75⟩ := M_begins (I := J3)
  have f1 : fr (fun a i => a = 85 ∧ 0 ≤ i ∧ i < 0 + 396) (e_ui (e_ui J 83 6 1) 83 33 0) J2 := f1
  have g1 : fr (fun a i => a = 87 ∧ 0 ≤ i ∧ i < 0 + 54) J2 J3 := g1
  have u : ∀ a i, ¬ (a = 83 ∧ (i = 6 ∨ i = 33)) → (e_ui (e_ui J 83 6 1) 83 33 0) a i = J a i := fun a i z => by
    by_cases q : a = 83
    · subst q
      rw [ui_i (fun w => z ⟨rfl, Or.inr w⟩), ui_i (fun w => z ⟨rfl, Or.inl w⟩)]
    · rw [ui_a q, ui_a q]
  have a85 : ∀ i, i < 396 → J3 85 i = J 86 i := fun i hi => by
    rw [g1 85 i (fun z => by cases z.1)]
    have k := f2 i hi
    rw [Nat.zero_add] at k
    exact k.trans (u 86 i (fun z => by cases z.1))
  have k85 : ∀ i, i < 69 → K 85 i = J 86 i := fun i hi => (h2 i (Or.inl hi)).trans (a85 i (by omega))
  refine ⟨K, ?_, k85, ⟨h69, h70, h71, ?_, h73, h74, h75⟩, fun i hi => ?_, ?_, ?_, fun a i x y z => ?_⟩
  · rw [let_eq, let_eq, show f_X8_lays 85 86 0 0 396 _ = _ from e2', r_b1, show f_X8_lays 87 88 0 0 54 _ = _ from e3, r_b1, e4, r_b1, t0, k85 0 (by decide), j0]
  · rw [h72, a85 60 (by decide), k60]
  · rw [h1 87 i (by decide)]
    have k := g2 i hi
    rw [Nat.zero_add] at k
    exact k.trans ((f1 88 i (fun z => by cases z.1)).trans (u 88 i (fun z => by cases z.1)))
  · rw [h1 83 6 (by decide), g1 83 6 (fun z => by cases z.1), f1 83 6 (fun z => by cases z.1), ui_i (by decide)]
    exact ui_s
  · rw [h1 83 33 (by decide), g1 83 33 (fun z => by cases z.1), f1 83 33 (fun z => by cases z.1)]
    exact ui_s
  · rw [h1 a i x, g1 a i (fun w => y w.1), f1 a i (fun w => x w.1)]
    exact u a i z
-- the game that both have begun
theorem GR_new {cnt t : Nat} {F ch ru od no M : Nat → Int32} {XI JI : e_I} (sh : SH cnt XI JI) (hc : 0 < cnt) (hF : F 0 = nI cnt ∧ F 1 = 1 ∧ F 2 = nI 0 ∧ F 3 = 0 ∧ F 4 = nI 0 ∧ F 5 = nI 0 ∧ F 6 = nI 0 ∧ F 7 = nI 0) (hch : ∀ k, k < 54 → ch k = XI 3 k) (hru : ∀ k, k < 5 → ru k = XI 4 k) (hod : ∀ k, k < 9 → od k = nI k) (hM : ∀ i, i < 69 → M i = JI 86 i) (hM2 : M 69 = 1 ∧ M 70 = 0 ∧ M 71 = 0 ∧ M 72 = nI 0 ∧ M 73 = 0 ∧ M 74 = 0 ∧ M 75 = 0) : r_GR F ch ru od no M 0 t := by
  obtain ⟨⟨c9, _, j0⟩, _, ru5, bt⟩ := sh
  obtain ⟨F0, F1, F2, F3, F4, F5, F6, F7⟩ := hF
  obtain ⟨m69, m70, m71, m72, m73, m74, m75⟩ := hM2
  have m0 : M 0 = nI cnt := (hM 0 (by decide)).trans j0
  have rn : r_n (M 0) = cnt := by rw [m0, nI_r (by omega)]
  have r6 : r_n (nI 0) = 0 := rfl
  have cell : ∀ b, b < cnt → ∀ e, e < 6 → ∃ v, v ≤ 20 ∧ ch (6 * b + e) = nI v ∧ M (6 + (6 * b + e)) = nI v := fun b hb e he => by
    obtain ⟨⟨f, f1, _⟩, _⟩ := bt b hb
    obtain ⟨x1, x2, x3⟩ := f1 e he
    exact ⟨f e, x3, (hch _ (by omega)).trans x1, (hM _ (by omega)).trans x2⟩
  unfold r_GR
  simp only [Nat.zero_add]
  rw [rn, m0]
  refine ⟨⟨F0, nI_le (a := 1) hc (by omega), nI_le (b := 9) c9 (by decide)⟩, fun k hk => ?_, ?_, fun k hk => ?_, fun b hb => ?_, fun k hk => ⟨?_, ?_, ?_⟩, fun j k hj hk e => ?_, F1.trans m69.symm, ?_, ⟨F4.trans m72.symm, ?_, ?_⟩, ⟨?_, ?_, ?_⟩, F3.trans m74.symm, ⟨?_, ?_, ?_, ?_, ?_⟩, fun j hj => ?_⟩
  · obtain ⟨v, v1, v2, _⟩ := ru5 k hk
    rw [hru k hk, hM (1 + k) (by omega), v1, v2]
  · obtain ⟨v0, a0, _, l0, h0⟩ := ru5 0 (by decide)
    obtain ⟨v1, a1, _, l1, h1⟩ := ru5 1 (by decide)
    obtain ⟨v2, a2, _, l2, h2⟩ := ru5 2 (by decide)
    obtain ⟨v3, a3, _, l3, h3⟩ := ru5 3 (by decide)
    obtain ⟨v4, a4, _, l4, h4⟩ := ru5 4 (by decide)
    have e0 : rlo 0 = 1 ∧ rhi 0 = 2 ∧ rlo 1 = 2 ∧ rhi 1 = 3 ∧ rlo 2 = 0 ∧ rhi 2 = 1 ∧ rhi 3 = 20 ∧ rlo 4 = 1 ∧ rhi 4 = 99 := by decide
    rw [hru 0 (by decide), hru 1 (by decide), hru 2 (by decide), hru 3 (by decide), hru 4 (by decide), a0, a1, a2, a3, a4]
    exact ⟨nI_le (a := 1) (by omega) (by omega), nI_le (b := 2) (by omega) (by decide), nI_le (a := 2) (by omega) (by omega), nI_le (b := 3) (by omega) (by decide), nI_le (a := 0) (by omega) (by omega), nI_le (b := 1) (by omega) (by decide), nI_le (a := 0) (by omega) (by omega), nI_le (b := 20) (by omega) (by decide), nI_le (a := 1) (by omega) (by omega), nI_le (b := 99) (by omega) (by decide)⟩
  · obtain ⟨v, _, v1, v2⟩ := cell (k / 6) (by omega) (k % 6) (by omega)
    rw [show 6 * (k / 6) + k % 6 = k by omega] at v1 v2
    rw [v1, v2]
  · refine ⟨fun k hk => ?_, ?_⟩
    · obtain ⟨v, v0, v1, _⟩ := cell b hb k hk
      rw [v1]
      exact ⟨nI_le (a := 0) (by omega) (by omega), nI_le (b := 20) (by omega) (by decide)⟩
    · obtain ⟨⟨f, f1, f2⟩, _⟩ := bt b hb
      have c : ∀ e, e < 6 → ch (6 * b + e) = nI (f e) := fun e he => (hch _ (by omega)).trans (f1 e he).1
      have h6 : hs f 6 = 0 + f 0 + f 1 + f 2 + f 3 + f 4 + f 5 := rfl
      have c0 : ch (6 * b) = nI (f 0) := c 0 (by decide)
      rw [c0, c 1 (by decide), c 2 (by decide), c 3 (by decide), c 4 (by decide), c 5 (by decide), nI_add, nI_add, nI_add, nI_add, nI_add, show f 0 + f 1 + f 2 + f 3 + f 4 + f 5 = 20 by omega]
      rfl
  · rw [hod k (by omega), hM (60 + k) (by omega)]
    exact (bt k hk).2.1.symm
  · rw [hod k (by omega)]
    exact nI_le (a := 0) (by omega) (by omega)
  · rw [hod k (by omega)]
    exact nI_lt hk (by omega)
  · rw [hod j (by omega), hod k (by omega)] at e
    exact (nI_eq (by omega) (by omega)).mp e
  · rw [m70, m71, F2]
    exact ⟨by decide, by decide, by decide, by decide, by decide⟩
  · rw [F4]
    decide
  · rw [F4]
    exact nI_lt hc (by omega)
  · rw [F5, m73]
    rfl
  · rw [F5]
    decide
  · rw [F5, r6]
    exact Nat.zero_le _
  · rw [F6, m75]
    rfl
  · rw [F6]
    decide
  · rw [F6]
    decide
  · rw [F7]
    decide
  · rw [F7]
    decide
  · rw [F6, r6] at hj
    omega
-- TEXT: T_text
theorem live_c {a i : Nat} (l : r_live a i = true) : a ≠ 2 ∧ a ≠ 3 ∧ a ≠ 4 ∧ a ≠ 7 ∧ a ≠ 86 ∧ a ≠ 88 := by
  refine ⟨?_, ?_, ?_, ?_, ?_, ?_⟩ <;> intro z <;> subst z <;> cases (show false = true from l)
theorem T_text (t : Nat) (ht : t < 600) : ST_text (Rl t) (Rl (t + 1)) := by
  intro v I L h
  have hsz : I 1 3 = I 83 5 := h.2.1.1.1
  by_cases hv : 0 ≤ v ∧ v ≤ I 1 3
  · obtain ⟨N, rfl, hN, hc, hm, hk, hl⟩ := text_in h.2.1 hv
    have c7 : cT (r_R7 I 0) N (fun i => r_n (I 84 i)) := cT_fr (fun i => rfl) hc
    have k7 : keysT (r_R7 I 0) := fun i hi => hk i hi
    have l7 : e_max 0 (e_min (nI N) (r_R7 I 0 1 3)) = nI N := hl
    have S := fun (J : e_I) (hJ : mT J N (fun i => r_n (I 84 i))) => S_read (I := r_R7 I 0) (J := J) hN c7 hJ k7 l7
    obtain ⟨⟨F, I5⟩, a7, ⟨⟨s0, J0⟩, _, o1⟩⟩ := S (r_R7 I 0) (mT_fr (fun i => rfl) hm)
    have o1 : OUT (r_R7 I 0) (r_R7 I 0) F I5 s0 J0 := o1
    have fI : fr fC (r_R7 I 0) I5 := o1.1
    have i5 : ∀ a i, a ≠ 0 → ¬ fC a i → I5 a i = I a i := fun a i h0 hf => (fI a i hf).trans (ui_a h0)
    -- the class's way
    have w7 : f_X7_text (nI N) I = if F ≠ 0 then f_X7_text_73 4 (e_ui (e_ui (e_ui I5 0 9 F) 0 10 (I5 1 5)) 1 3 0) else f_X7_text_73 0 (e_ui (e_ui (e_ui I5 0 9 F) 0 10 (I5 1 5)) 1 3 0) := by
      unfold f_X7_text f_X7_text_21
      rw [r_within, if_pos hv, r_b1, if_neg (show ¬ (1 : Int32) = 0 by decide), r_refused, r_b2, if_pos (show r_b 0 = 0 from rfl), a7, r_b2, let_eq, let_eq, let_eq]
      rfl
    generalize hX : e_ui (e_ui (e_ui I5 0 9 F) 0 10 (I5 1 5)) 1 3 0 = X at w7
    have x0 : ∀ a i, a ≠ 0 → ¬ (a = 1 ∧ i = 3) → X a i = I5 a i := fun a i h0 h1 => by
      rw [← hX]
      by_cases q : a = 1
      · subst q
        rw [ui_i (fun z => h1 ⟨rfl, z⟩), ui_a (by decide), ui_a (by decide)]
      · rw [ui_a q, ui_a h0, ui_a h0]
    have x09 : X 0 9 = F := by
      rw [← hX]
      rfl
    have x010 : X 0 10 = I5 1 5 := by
      rw [← hX]
      rfl
    have x13 : X 1 3 = 0 := by
      rw [← hX]
      rfl
    -- the model's way over a memory I1
    have w8 : ∀ I1 : e_I, I1 83 5 = I 83 5 → (∀ i, I1 84 i = I 84 i) → ∃ s J5, OUT (r_R7 I 0) (e_ui (e_ui (r_R8 I1 0) 83 5 0) 83 2 0) F I5 s J5 ∧ f_X8_text (nI N) I1 = if s ≠ 0 then (e_let (e_ui J5 83 6 1) (fun (I_11 : e_I) => e_let (e_ui I_11 83 33 0) (fun (I_12 : e_I) => e_b1 (f_X8_lays 85 86 0 0 396 I_12) (fun (I_13 : e_I) => e_b1 (f_X8_lays 87 88 0 0 54 I_13) (fun (I_14 : e_I) => e_b1 (f_X8_begins 85 I_14) (fun (I_15 : e_I) => some ((I_15 85 (0 : Int32).toNatClampNeg), I_15))))))) else some (-1, e_ui (e_ui (e_ui J5 83 2 (J5 83 17)) 83 3 ((e_ui J5 83 2 (J5 83 17)) 83 18)) 83 1 4) := fun I1 h5 h84 => by
      have mJ : mT (e_ui (e_ui (r_R8 I1 0) 83 5 0) 83 2 0) N (fun i => r_n (I 84 i)) := mT_fr (I := I) (fun i => h84 i) hm
      obtain ⟨⟨F', I5'⟩, a7', ⟨⟨s, J5⟩, a8, o2⟩⟩ := S _ mJ
      have ee := a7.symm.trans a7'
      injection ee with ee
      injection ee with ef ei
      subst ef
      subst ei
      refine ⟨s, J5, o2, ?_⟩
      unfold f_X8_text
      rw [h5, ← hsz, r_in, if_pos hv, r_b1, r_unless_, if_neg (show ¬ (1 : Int32) = 0 by decide), if_neg (show ¬ (1 : Int32) = 0 by decide), r_b1, r_isRefused, r_b2, if_pos (show r_b 0 = 0 from rfl), let_eq, let_eq, a8, r_b2]
      rfl
    by_cases hF : F = 0
    · -- a text without a fault
      subst hF
      obtain ⟨_, _, d⟩ := o1
      have d1 : ∃ cnt, 0 < cnt ∧ SH cnt I5 J0 := by
        rcases d with ⟨_, _, cnt, c0, sh0⟩ | ⟨n, _⟩
        · exact ⟨cnt, c0, sh0⟩
        · exact absurd rfl n
      obtain ⟨cnt, c0, sh0⟩ := d1
      have sX : SH cnt (r_R7 X 0) J0 := SH_fr (I := I5) (J := J0) ((ui_a (by decide)).trans (x0 1 4 (by decide) (by omega))) (fun i => (ui_a (by decide)).trans (x0 7 i (by decide) (by omega))) (fun i => (ui_a (by decide)).trans (x0 4 i (by decide) (by omega))) (fun i => (ui_a (by decide)).trans (x0 2 i (by decide) (by omega))) (fun i => (ui_a (by decide)).trans (x0 3 i (by decide) (by omega))) rfl (fun _ => rfl) (fun _ => rfl) sh0
      obtain ⟨W, eW, w23, w24, w25, w26, wn, w92, wT, wo⟩ := C_cells sX
      have e7 : f_X7_text (nI N) I = some (nI cnt, W) := by
        rw [w7, if_neg (fun n => n rfl)]
        unfold f_X7_text_73
        rw [r_refused, r_b2, if_pos (show r_b 0 = 0 from rfl), let_eq]
        exact eW
      have wX : ∀ a i, a ≠ 0 → a ≠ 1 → a ≠ 8 → ¬ (a = 9 ∧ i = 2) → a ≠ 12 → a ≠ 13 → a ≠ 14 → (a < 23 ∨ 26 < a) → ¬ fC a i → W a i = I a i := fun a i h0 h1 h2 h3 h4 h5 h6 h7 h8 => (wo a i h2 h3 h4 h5 h6 h7).trans ((ui_a h0).trans ((x0 a i h0 (fun z => h1 z.1)).trans (i5 a i h0 h8)))
      have nf : ∀ a i, a ≠ 1 → a ≠ 2 → a ≠ 3 → a ≠ 4 → a ≠ 7 → ¬ fC a i := fun a i h1 h2 h3 h4 h5 z => by rcases z with z | z | z | z | z <;> omega
      obtain ⟨s, J5, o2, e8⟩ := w8 W (wX 83 5 (by decide) (by decide) (by decide) (by omega) (by decide) (by decide) (by decide) (by omega) (nf 83 5 (by decide) (by decide) (by decide) (by decide) (by decide))) (fun i => wX 84 i (by decide) (by decide) (by decide) (by omega) (by decide) (by decide) (by decide) (by omega) (nf 84 i (by decide) (by decide) (by decide) (by decide) (by decide)))
      obtain ⟨_, f2, d⟩ := o2
      have d2 : s = 1 ∧ ∃ cnt, 0 < cnt ∧ SH cnt I5 J5 := by
        rcases d with ⟨_, s1, cnt2, c2, sh⟩ | ⟨n, _⟩
        · exact ⟨s1, cnt2, c2, sh⟩
        · exact absurd rfl n
      obtain ⟨s1, cnt2, c2, sh⟩ := d2
      have ce : cnt2 = cnt := by
        have a := sh.1.2.1
        have b := sh0.1.2.1
        have z1 := sh.1.1
        have z2 := sh0.1.1
        rw [a] at b
        exact (nI_eq (by omega) (by omega)).mp b
      subst ce
      obtain ⟨K, eK, k85, km, k87, k6, k33, ko⟩ := M_cells sh c2
      have c9 := sh.1.1
      refine ⟨nI cnt2, W, K, e7, ?_, ?_⟩
      · rw [e8, s1, if_pos (by decide)]
        exact eK
      · -- the relation
        have kW : ∀ a i, a ≠ 83 → a ≠ 85 → a ≠ 87 → a ≠ 86 → a ≠ 88 → K a i = W a i := fun a i h1 h2 h3 h4 h5 => by
          rw [ko a i h2 h3 (fun z => h1 z.1), f2 a i (fun z => by rcases z with z | z | z <;> omega), ui_a h1, ui_a h1]
          unfold r_R8
          rw [ui_a h1, ui_a h1, ui_a h1]
        have k83 : K 83 1 = 0 ∧ K 83 2 = 0 ∧ K 83 3 = -1 ∧ K 83 5 = 0 := by
          have o : ∀ i, i < 6 → K 83 i = (e_ui (e_ui (r_R8 W 0) 83 5 0) 83 2 0) 83 i := fun i hi => (ko 83 i (by decide) (by decide) (by omega)).trans (f2 83 i (fun z => by rcases z with z | z | z <;> omega))
          exact ⟨(o 1 (by decide)).trans rfl, (o 2 (by decide)).trans rfl, (o 3 (by decide)).trans rfl, (o 5 (by decide)).trans rfl⟩
        have kw0 : ∀ a i, a ≠ 83 → a ≠ 85 → a ≠ 87 → a ≠ 86 → a ≠ 88 → a ≠ 8 → ¬ (a = 9 ∧ i = 2) → a ≠ 12 → a ≠ 13 → a ≠ 14 → (a < 23 ∨ 26 < a) → K a i = r_R7 X 0 a i := fun a i h1 h2 h3 h4 h5 g1 g2 g3 g4 g5 g6 => (kW a i h1 h2 h3 h4 h5).trans (wo a i g1 g2 g3 g4 g5 g6)
        have k08 : K 0 8 = 0 := (kw0 0 8 (by decide) (by decide) (by decide) (by decide) (by decide) (by decide) (by omega) (by decide) (by decide) (by decide) (by omega)).trans rfl
        have k09 : K 0 9 = 0 := (kw0 0 9 (by decide) (by decide) (by decide) (by decide) (by decide) (by decide) (by omega) (by decide) (by decide) (by decide) (by omega)).trans ((ui_i (by decide)).trans x09)
        have k13 : K 1 3 = 0 := (kw0 1 3 (by decide) (by decide) (by decide) (by decide) (by decide) (by decide) (by omega) (by decide) (by decide) (by decide) (by omega)).trans ((ui_a (by decide)).trans x13)
        have kI : ∀ a i, a ≠ 0 → a ≠ 1 → a ≠ 2 → a ≠ 3 → a ≠ 4 → a ≠ 7 → a ≠ 83 → a ≠ 85 → a ≠ 87 → a ≠ 86 → a ≠ 88 → a ≠ 8 → ¬ (a = 9 ∧ i = 2) → a ≠ 12 → a ≠ 13 → a ≠ 14 → (a < 23 ∨ 26 < a) → K a i = I a i := fun a i h0 h1 h2 h3 h4 h7 g1 g2 g3 g4 g5 j1 j2 j3 j4 j5 j6 => (kW a i g1 g2 g3 g4 g5).trans (wX a i h0 h1 j1 j2 j3 j4 j5 j6 (nf a i h1 h2 h3 h4 h7))
        have k92 : K 9 2 = 0 := (kW 9 2 (by decide) (by decide) (by decide) (by decide) (by decide)).trans w92
        have k91 : K 9 1 = I 9 1 := kI 9 1 (by decide) (by decide) (by decide) (by decide) (by decide) (by decide) (by decide) (by decide) (by decide) (by decide) (by decide) (by decide) (by omega) (by decide) (by decide) (by decide) (by omega)
        have cW : ∀ a, a = 23 ∨ a = 24 ∨ a = 25 ∨ a = 26 ∨ a = 27 ∨ a = 13 ∨ a = 14 ∨ a = 8 → K a = W a := fun a ha => funext fun i => kW a i (by omega) (by omega) (by omega) (by omega) (by omega)
        have xc : ∀ a i, a = 2 ∨ a = 3 ∨ a = 4 → r_R7 X 0 a i = I5 a i := fun a i ha => (ui_a (by omega)).trans (x0 a i (by omega) (by omega))
        have gr : ∀ tt, r_GR (K 23) (K 24) (K 25) (K 26) (K 27) (K 85) 0 tt := fun tt => by
          rw [cW 23 (by omega), cW 24 (by omega), cW 25 (by omega), cW 26 (by omega)]
          exact GR_new (XI := I5) (JI := J5) sh c2 w23 (fun k hk => (w24 k hk).trans (xc 3 k (by omega))) (fun k hk => (w25 k hk).trans (xc 4 k (by omega))) w26 k85 km
        have e850 : K 85 0 = nI cnt2 := (k85 0 (by decide)).trans sh.1.2.2
        refine ⟨⟨k08.trans k83.1.symm, k09.trans k83.2.1.symm, fun z => ?_, fun _ => k83.2.2.1⟩, ⟨⟨k13.trans k83.2.2.2.symm, ?_, ?_⟩, fun i hi => ?_, fun i hi => ?_⟩, Or.inr ⟨k6, gr _⟩, ⟨⟨k92.trans k33.symm, ?_, ?_, ?_, ?_⟩, fun j hj => ?_⟩, ⟨?_, h.2.2.2.2.1.2⟩, fun _ => ⟨?_, fun b hb => ?_⟩, fun z => ?_, fun j hj => ?_⟩
        · rw [k08] at z
          exact absurd z (by decide)
        · rw [k13]
          decide
        · rw [k13]
          decide
        · rw [k13, show r_n 0 = 0 from rfl] at hi
          omega
        · exact (kI 6 i (by decide) (by decide) (by decide) (by decide) (by decide) (by decide) (by decide) (by decide) (by decide) (by decide) (by decide) (by decide) (by omega) (by decide) (by decide) (by decide) (by omega)).trans (h.2.1.2.2 i hi)
        · rw [k92]
          decide
        · rw [k92]
          decide
        · rw [k91]
          exact h.2.2.2.1.1.2.2.2.1
        · rw [k91]
          exact h.2.2.2.1.1.2.2.2.2
        · rw [k92, show r_n 0 = 0 from rfl] at hj
          omega
        · exact (kI 11 5 (by decide) (by decide) (by decide) (by decide) (by decide) (by decide) (by decide) (by decide) (by decide) (by decide) (by decide) (by decide) (by omega) (by decide) (by decide) (by decide) (by omega)).trans h.2.2.2.2.1.1
        · rw [cW 25 (by omega), w25 0 (by decide), w25 1 (by decide), w25 2 (by decide)]
          unfold c_T
          rw [cW 13 (by omega), cW 14 (by omega)]
          exact wT
        · rw [e850, nI_r (by omega)] at hb
          obtain ⟨w, n1, n2, n3⟩ := (sh.2.2.2 b hb).2.2
          refine ⟨w, n1, ?_, fun k hk => (k87 _ (by omega)).trans (n3 k hk)⟩
          rw [cW 8 (by omega), wn b (by omega), xc 2 b (by omega)]
          exact n2
        · rw [k6] at z
          exact absurd z (by decide)
        · rw [k92, show r_n 0 = 0 from rfl] at hj
          omega
    · -- a fault
      have e7 : f_X7_text (nI N) I = some (-1, r_R7 X 4) := by
        rw [w7, if_pos hF]
        unfold f_X7_text_73
        rw [r_refused, r_b2, if_neg (show ¬ r_b 4 = 0 by decide)]
      have x1 : ∀ a i, a ≠ 0 → a ≠ 1 → ¬ fC a i → r_R7 X 4 a i = I a i := fun a i h0 h1 hf => (ui_a h0).trans ((x0 a i h0 (fun z => h1 z.1)).trans (i5 a i h0 hf))
      have nf : ∀ a i, a ≠ 1 → a ≠ 2 → a ≠ 3 → a ≠ 4 → a ≠ 7 → ¬ fC a i := fun a i h1 h2 h3 h4 h5 z => by rcases z with z | z | z | z | z <;> omega
      obtain ⟨s, J5, o2, e8⟩ := w8 (r_R7 X 4) (x1 83 5 (by decide) (by decide) (nf 83 5 (by decide) (by decide) (by decide) (by decide) (by decide))) (fun i => x1 84 i (by decide) (by decide) (nf 84 i (by decide) (by decide) (by decide) (by decide) (by decide)))
      obtain ⟨_, f2, d⟩ := o2
      rcases d with ⟨n, _⟩ | ⟨_, s0', eF, eP⟩
      · exact absurd n hF
      rw [s0', if_neg (fun n => n rfl)] at e8
      refine ⟨-1, r_R7 X 4, _, e7, e8, Rl_mono (Nat.le_succ t) ?_⟩
      · have o5 : ∀ a i, ¬ fM a i → ¬ (a = 83 ∧ (i ≤ 3 ∨ i = 5)) → J5 a i = r_R7 X 4 a i := fun a i h1 h2 => by
          rw [f2 a i h1]
          by_cases q : a = 83
          · subst q
            rw [ui_i (by omega), ui_i (by omega)]
            unfold r_R8
            rw [ui_i (by omega), ui_i (by omega), ui_i (by omega)]
          · rw [ui_a q, ui_a q]
            unfold r_R8
            rw [ui_a q, ui_a q, ui_a q]
        have k1 : ∀ a i, a ≠ 83 → (e_ui (e_ui (e_ui J5 83 2 (J5 83 17)) 83 3 ((e_ui J5 83 2 (J5 83 17)) 83 18)) 83 1 4) a i = J5 a i := fun a i h1 => (ui_a h1).trans ((ui_a h1).trans (ui_a h1))
        have k83 : ∀ i, ¬ (1 ≤ i ∧ i ≤ 3) → (e_ui (e_ui (e_ui J5 83 2 (J5 83 17)) 83 3 ((e_ui J5 83 2 (J5 83 17)) 83 18)) 83 1 4) 83 i = J5 83 i := fun i h1 => (ui_i (by omega)).trans ((ui_i (by omega)).trans (ui_i (by omega)))
        have m1 : (e_ui (e_ui (e_ui J5 83 2 (J5 83 17)) 83 3 ((e_ui J5 83 2 (J5 83 17)) 83 18)) 83 1 4) 83 1 = 4 := ui_s
        have m2 : (e_ui (e_ui (e_ui J5 83 2 (J5 83 17)) 83 3 ((e_ui J5 83 2 (J5 83 17)) 83 18)) 83 1 4) 83 2 = J5 83 17 := (ui_i (by decide)).trans ((ui_i (by decide)).trans ui_s)
        have m3 : (e_ui (e_ui (e_ui J5 83 2 (J5 83 17)) 83 3 ((e_ui J5 83 2 (J5 83 17)) 83 18)) 83 1 4) 83 3 = J5 83 18 := (ui_i (by decide)).trans (ui_s.trans (ui_i (by decide)))
        generalize e_ui (e_ui (e_ui J5 83 2 (J5 83 17)) 83 3 ((e_ui J5 83 2 (J5 83 17)) 83 18)) 83 1 4 = K at k1 k83 m1 m2 m3 ⊢
        have n0 : ∀ a i, a ≠ 83 → a ≠ 86 → a ≠ 88 → K a i = r_R7 X 4 a i := fun a i h1 h2 h3 => (k1 a i h1).trans (o5 a i (fun z => by rcases z with z | z | z <;> omega) (fun z => h1 z.1))
        have k08 : K 0 8 = 4 := (n0 0 8 (by decide) (by decide) (by decide)).trans ui_s
        have k09 : K 0 9 = F := (n0 0 9 (by decide) (by decide) (by decide)).trans ((ui_i (by decide)).trans x09)
        have k010 : K 0 10 = I5 1 5 := (n0 0 10 (by decide) (by decide) (by decide)).trans ((ui_i (by decide)).trans x010)
        have k13 : K 1 3 = 0 := (n0 1 3 (by decide) (by decide) (by decide)).trans ((ui_a (by decide)).trans x13)
        have k835 : K 83 5 = 0 := (k83 5 (by omega)).trans ((f2 83 5 (fun z => by rcases z with z | z | z <;> omega)).trans rfl)
        refine Rl_tell h (fun a i l h0 h1 h5 h84 h83 => ?_) ?_ ⟨k08.trans m1.symm, k09.trans (eF.trans m2.symm), fun _ => k010.trans (eP.trans m3.symm), fun z => absurd k08 z⟩ ⟨⟨k13.trans k835.symm, ?_, ?_⟩, fun i hi => ?_, fun i hi => ?_⟩
        · obtain ⟨l2, l3, l4, l7, l86, l88⟩ := live_c l
          by_cases q : a = 83
          · subst q
            have h6 := h83 rfl
            exact (k83 i (by omega)).trans ((o5 83 i (fun z => by rcases z with z | z | z <;> omega) (fun z => by omega)).trans (x1 83 i h0 h1 (nf 83 i h1 l2 l3 l4 l7)))
          · exact (n0 a i q l86 l88).trans (x1 a i h0 h1 (nf a i h1 l2 l3 l4 l7))
        · exact (n0 11 5 (by decide) (by decide) (by decide)).trans ((x1 11 5 (by decide) (by decide) (nf 11 5 (by decide) (by decide) (by decide) (by decide) (by decide))).trans h.2.2.2.2.1.1)
        · rw [k13]
          decide
        · rw [k13]
          decide
        · rw [k13, show r_n 0 = 0 from rfl] at hi
          omega
        · exact (n0 6 i (by decide) (by decide) (by decide)).trans ((x1 6 i (by decide) (by decide) (nf 6 i (by decide) (by decide) (by decide) (by decide) (by decide))).trans (h.2.1.2.2 i hi))
  · refine bad_1 (v := 2) h (by decide) ?_ ?_
    · unfold f_X7_text f_X7_text_21
      rw [r_within, if_neg hv, r_b1, if_pos rfl, r_refused]
      rfl
    · unfold f_X8_text
      rw [show r_R7 I 2 83 5 = I 83 5 from rfl, ← hsz, r_in, if_neg hv, r_b1, r_unless_, if_neg (show ¬ (1 : Int32) = 0 by decide), if_pos rfl, r_b1, r_isRefused]
      rfl
