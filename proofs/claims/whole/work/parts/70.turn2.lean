-- A TURN, chosen
theorem let_eq {α τ : Type} (a : α) (F : α → Option τ) : e_let a F = F a := rfl
theorem mR7 {s d f st : Nat} : mR s d f 7 st = 0 := rfl
theorem mR8 {s d f st : Nat} : mR s d f 8 st = 0 := rfl
theorem M_now2 {I : e_I} {L : e_L} {c s d f sl ti b p fc st n kd k : Nat} {CH : Nat → Nat → Nat} {O : Nat → Nat} (h1 : NV c s d f sl ti CH) (hM : GM I c s d f sl ti CH O b fc st n) (hO : ∀ i, i < c → O i < c) (hp : p < c) (ep : O p = b) (hf : ∀ i, i < p → O i ≠ b) (hfc : fc < 100000) (hk : kd < 4) (k1 : k ≤ 5) : wp (f_X8_laysNow (nI kd) (nI k) I L) (fun w => fr m_S4 I w.1 ∧ frL m_SL L w.2 ∧ w.1 83 27 = nI sl ∧ M_laid s d f c sl ti kd k p fc CH O k w.1 w.2) := by
  obtain ⟨h3, mo, m72, m73, m70, m71, m75⟩ := hM
  have c9 := h1.1.2
  have hb : b < c := by rw [← ep]; exact hO p hp
  have f0 : fr m_S4 I (e_ui I 83 27 (I 85 (4 : Int32).toNatClampNeg)) := fr_ui (Or.inl ⟨rfl, Or.inr rfl⟩)
  have c85 : ∀ i, e_ui I 83 27 (I 85 (4 : Int32).toNatClampNeg) 85 i = I 85 i := fun i => ui_a (show (85 : Nat) ≠ 83 by decide)
  have h4 : ∀ i, i < c → I 85 (60 + i) = nI (O i) ∧ O i < c := fun i hi => ⟨mo i hi, hO i hi⟩
  unfold f_X8_laysNow
  refine wp_let ?_
  have x72 : e_ui I 83 27 (I 85 (4 : Int32).toNatClampNeg) 85 (72 : Int32).toNatClampNeg = nI b := (c85 72).trans m72
  have x73 : e_ui I 83 27 (I 85 (4 : Int32).toNatClampNeg) 85 (73 : Int32).toNatClampNeg = nI fc := (c85 73).trans m73
  have x27 : e_ui I 83 27 (I 85 (4 : Int32).toNatClampNeg) 83 27 = nI sl := ui_s.trans h3.2.2.1
  rw [x72, x73]
  refine wp_e1 (M_placeOf (O := O) (c := c) (fun i hi => by rw [c85]; exact h4 i hi) c9 hp ep (by omega) hf) ?_
  refine wp_c2 (M_out (at0 := 60) (OR := O) (MV_85 c85 h3) h1 (fun _ => x27) h1.2.2.1 (Or.inl rfl) (show 60 + c ≤ 396 by omega) (by decide) (fun i hi => by rw [c85]; exact h4 i hi) hk k1 (by omega) (by omega)) (fun J M hJ => wp_some ⟨?_, hJ.2.1, ?_, hJ.2.2⟩)
  · exact fr_tr f0 (fr_mono (fun a i z => by unfold m_S4; rcases z with z | z | z <;> omega) hJ.1)
  · have o := hJ.1 83 27 (fun z => by rcases z with z | z | z <;> omega)
    exact o.trans x27
theorem mF_4 {I J : e_I} (h : fr m_S4 I J) : fr mF I J := fr_mono (fun _ _ z => Or.inr z) h
theorem mL_S {L M : e_L} (h : frL m_SL L M) : frL mL L M := frL_mono (fun a i z => by
  unfold mL
  rcases z with z | z | z <;> omega) h
theorem TN_m {g c s d f sl ti b fc st n w x : Nat} {CH : Nat → Nat → Nat} {O : Nat → Nat} {I : e_I} {L : e_L} {J J' : e_I} {M M' : e_L} (hJ : fr m_S4 J J') (hM : frL m_SL M M') (h : TN g c s d f sl ti CH O b fc st n w x I L J M) : TN g c s d f sl ti CH O b fc st n w x I L J' M' := by
  obtain ⟨gN, gC, gM, g2, gT, z11, zZ, s1, s2, hx⟩ := h
  have e : ∀ i, J' 85 i = J 85 i := fun i => hJ 85 i (fun z => by rcases z with z | z | z <;> omega)
  exact ⟨gN, gC, GM_same e gM, G2_same (fun _ => rfl) (fun _ => rfl) e g2, gT, z11, zZ, s1, (hM 83 31 (fun z => by rcases z with z | z | z <;> omega)).trans s2, hx⟩
theorem GC_any {I J : e_I} {g c s d f sl ti b fc st n w : Nat} {CH : Nat → Nat → Nat} {O : Nat → Nat} (h : ∀ a i, g ≤ a → a ≤ g + 4 → J a i = I a i) (hC : GC I g c s d f sl ti CH O b fc st n w) : GC J g c s d f sl ti CH O b fc st n w := by
  obtain ⟨v, k4, k5, k2, k6, k7⟩ := hC
  refine ⟨CV_fr (fun i => h g i (by omega) (by omega)) (fun i => h (g + 1) i (by omega) (by omega)) (fun i => h (g + 2) i (by omega) (by omega)) (fun i => h (g + 3) i (by omega) (by omega)) v, ?_, ?_, ?_, ?_, ?_⟩
  · rw [h g 4 (by omega) (by omega)]; exact k4
  · rw [h g 5 (by omega) (by omega)]; exact k5
  · rw [h g 2 (by omega) (by omega)]; exact k2
  · rw [h g 6 (by omega) (by omega)]; exact k6
  · rw [h g 7 (by omega) (by omega)]; exact k7
theorem TN_c {g c s d f sl ti b fc st n w x : Nat} {CH : Nat → Nat → Nat} {O : Nat → Nat} {I I' : e_I} {L L' : e_L} {J : e_I} {M : e_L} (hg : 23 ≤ g) (hI : fr c_S11 I I') (hL : frL c_SL L L') (h11 : I' 11 5 = 0) (hz : c_Z L') (h : TN g c s d f sl ti CH O b fc st n w x I L J M) : TN g c s d f sl ti CH O b fc st n w x I' L' J M := by
  obtain ⟨gN, gC, gM, g2, gT, z11, zZ, s1, s2, hx⟩ := h
  have e : ∀ a i, a ≠ 17 → a ≠ 11 → I' a i = I a i := fun a i x y => hI a i (fun z => by rcases z with z | z <;> omega)
  exact ⟨gN, GC_any (fun a i x y => e a i (by omega) (by omega)) gC, gM, G2_same (fun i => e g i (by omega) (by omega)) (fun i => e (g + 4) i (by omega) (by omega)) (fun _ => rfl) g2, c_T_fr (fun i => e 13 i (by decide) (by decide)) (fun i => e 14 i (by decide) (by decide)) gT, h11, hz, (hL 22 0 (fun z => by rcases z with z | z | z <;> omega)).trans s1, s2, hx⟩
-- the model's choices
theorem S_ch1 {J : e_I} {M : e_L} {c s d f sl ti b p fc st n : Nat} {CH : Nat → Nat → Nat} {O : Nat → Nat} (h1 : NV c s d f sl ti CH) (hM : GM J c s d f sl ti CH O b fc st n) (hO : ∀ i, i < c → O i < c) (hp : p < c) (ep : O p = b) (hf : ∀ i, i < p → O i ≠ b) (hfc : fc < 100000) (hst : st < 24) : wp (f_X8_chooses 1 J M) (fun q => q.1 = nI (sC s d f 400 sl (LV s d f c sl ti 2 2 p fc CH O 1) (sh1 ti CH b fc) st) ∧ fr m_S4 J q.2.1 ∧ frL m_SL M q.2.2) := by
  have t70 : (70 : Int32).toNatClampNeg = 70 := rfl
  have t71 : (71 : Int32).toNatClampNeg = 71 := rfl
  unfold f_X8_chooses
  refine wp_c2 (M_now2 (kd := 2) (k := 2) h1 hM hO hp ep hf hfc (by decide) (by decide)) (fun J2 M2 h2 => ?_)
  obtain ⟨i1, i2, i3, i4⟩ := h2
  have e85 : ∀ i, J2 85 i = J 85 i := fun i => i1 85 i (fun z => by rcases z with z | z | z <;> omega)
  have ix : (8 : Int32) * J2 85 (71 : Int32).toNatClampNeg + J2 85 (70 : Int32).toNatClampNeg = nI st := by
    rw [t70, t71, e85, e85, hM.2.2.2.2.1, hM.2.2.2.2.2.1, n8, nI_mul, nI_add, show 8 * (st / 8) + st % 8 = st by omega]
  rw [ix]
  refine wp_let (wp_f (by decide) (wp_as (nI_ix hst (by omega)) (wp_some ⟨?_, i1, i2⟩)))
  show J2 91 (nI st).toNatClampNeg = _
  rw [nI_clamp (by omega)]
  have m := ((i4.2.2 1 rfl).2.2 rfl) st hst
  have e2 : sSc c 2 ^ 1 = 400 := (Nat.pow_one _).trans rfl
  have e3 : shl c ti 2 2 p fc CH O (1 + 1) = sh1 ti CH (O p) fc := shl_top (K := 2) hp
  rw [e2, e3, ep] at m
  exact m
theorem S_ch0 {J : e_I} {M : e_L} {c s d f sl ti b p fc st n : Nat} {CH : Nat → Nat → Nat} {O : Nat → Nat} (h1 : NV c s d f sl ti CH) (hM : GM J c s d f sl ti CH O b fc st n) (hO : ∀ i, i < c → O i < c) (hp : p < c) (ep : O p = b) (hf : ∀ i, i < p → O i ≠ b) (hfc : fc < 100000) (hst : st < 24) : wp (f_X8_chooses 0 J M) (fun q => q.1 = nI (sC1 s d f 400 (LV s d f c sl ti 2 2 p fc CH O 1) (sh1 ti CH b fc) st) ∧ fr m_S4 J q.2.1 ∧ frL m_SL M q.2.2) := by
  have t70 : (70 : Int32).toNatClampNeg = 70 := rfl
  have t71 : (71 : Int32).toNatClampNeg = 71 := rfl
  have hb : b < c := by rw [← ep]; exact hO p hp
  unfold f_X8_chooses
  refine wp_c2 (M_now2 (kd := 2) (k := 2) h1 hM hO hp ep hf hfc (by decide) (by decide)) (fun J2 M2 h2 => ?_)
  obtain ⟨i1, i2, i3, i4⟩ := h2
  have e85 : ∀ i, J2 85 i = J 85 i := fun i => i1 85 i (fun z => by rcases z with z | z | z <;> omega)
  have ix : (8 : Int32) * J2 85 (71 : Int32).toNatClampNeg + J2 85 (70 : Int32).toNatClampNeg = nI st := by
    rw [t70, t71, e85, e85, hM.2.2.2.2.1, hM.2.2.2.2.2.1, n8, nI_mul, nI_add, show 8 * (st / 8) + st % 8 = st by omega]
  rw [ix]
  refine wp_let (wp_t rfl (wp_let ?_))
  have e2 : sSc c 2 = 400 := rfl
  have e3 : shl c ti 2 2 p fc CH O (1 + 1) = sh1 ti CH (O p) fc := shl_top (K := 2) hp
  have u : M2 83 26 / 400 = lN 400 := by
    have i4a : M2 83 26 = lN (sSc c 2 ^ 2) := i4.1
    have sq : (400 : Nat) ^ 2 / 400 = 400 := by decide
    rw [i4a, e2, l400, lN_div (by decide) (by decide) (by decide), sq]
  rw [u]
  obtain ⟨j1, j2, j3⟩ := i4.2.2 1 rfl
  rw [e3, ep] at j2
  have hL : M_L (e_ul M2 83 26 (lN 400)) 400 (LV s d f c sl ti 2 2 p fc CH O 1) := ⟨ul_s, LV_over 1, fun st hst => by
    rw [ul_a (show (90 : Nat) ≠ 83 by decide)]
    exact j1 st hst⟩
  have hMc : M_c J2 s d f := (MV_85 e85 hM.1).2.1
  have bd := C_bnd (k := 2) (fi := p) (fc := fc) (j := 1) (f0 := fc) (b0 := b) h1 h1.2.2.1 hO (by decide) hb
  have b58 := bd.1 st hst
  have hsh : M_sh J2 (sh1 ti CH b fc) := fun e he => ⟨j2 e he, sh1_lt h1 hb he⟩
  have fL : frL m_SL M (e_ul M2 83 26 (lN 400)) := frL_tr i2 (frL_ul (Or.inr (Or.inr ⟨rfl, rfl⟩)))
  have r8 : e_rm (nI st) 8 = nI (st % 8) := by rw [n8, nI_rm (by decide) (by omega) (by decide)]
  have d8 : nI st / 8 = nI (st / 8) := by rw [n8, nI_div (by decide) (by omega) (by decide)]
  have cb : f_X8_canBe (nI (st % 8)) (nI (st / 8)) 6 = some (if mC 6 st then 1 else 0) := m_canBe_all 6 (by decide) st hst
  rw [r8, d8]
  refine wp_e1 cb ?_
  by_cases q : mC 6 st = true
  · rw [if_pos q]
    refine wp_f (by decide) ?_
    refine wp_c2 (M_bunts h1.2.1 hMc hL hst) (fun x1 J3 h3 => ?_)
    have h31 : x1 = _ := h3.1
    have h32 : fr m_S J2 J3 := h3.2
    refine wp_c2 (M_hits (kd := 2) h1.2.1 (M_c_fr h32 hMc) hL (M_sh_fr h32 hsh) hst (by decide)) (fun x2 J4 h4 => ?_)
    have h41 : x2 = lN (sH s d f false 400 (LV s d f c sl ti 2 2 p fc CH O 1) (sh1 ti CH b fc) st) := h4.1
    have h42 : fr m_S J3 J4 := h4.2
    have f4 : fr m_S4 J J4 := fr_tr i1 (fr_mono (fun a i z => Or.inl ⟨z.1, Or.inl z.2⟩) (fr_tr h32 h42))
    rw [h31, h41]
    have e4 : (400 : Nat) ^ 1 = 400 := rfl
    rw [e4] at b58
    have le : lg_cmp (lN (sB s d f 400 (LV s d f c sl ti 2 2 p fc CH O 1) st)) (lN (sH s d f false 400 (LV s d f c sl ti 2 2 p fc CH O 1) (sh1 ti CH b fc) st)) ≤ 0 ↔ sB s d f 400 (LV s d f c sl ti 2 2 p fc CH O 1) st ≤ sH s d f false 400 (LV s d f c sl ti 2 2 p fc CH O 1) (sh1 ti CH b fc) st := lN_cmp (by omega) (by omega)
    refine wp_c (fun z => ?_) (fun z => ?_)
    · refine wp_some ⟨?_, f4, fL⟩
      have z := le.mp z
      unfold sC1
      rw [if_neg (fun n => by omega)]
      rfl
    · refine wp_some ⟨?_, f4, fL⟩
      have z := mt le.mpr z
      unfold sC1
      rw [if_pos ⟨q, by omega⟩]
      rfl
  · rw [if_neg q]
    refine wp_t rfl (wp_some ⟨?_, i1, fL⟩)
    unfold sC1
    rw [if_neg (fun n => q n.1)]
    rfl
theorem sC1_01 {s d f u st : Nat} {V sh : Nat → Nat} : (sC1 s d f u V sh st = 0 ∨ sC1 s d f u V sh st = 1 ∧ mC 6 st = true) := by
  unfold sC1
  split
  · next h => exact Or.inr ⟨rfl, h.1⟩
  · exact Or.inl rfl
theorem sC_012 {s d f u sl st : Nat} {V sh : Nat → Nat} : (sC s d f u sl V sh st = 0 ∨ (sC s d f u sl V sh st = 1 ∧ mC 6 st = true) ∨ (sC s d f u sl V sh st = 2 ∧ mC 7 st = true)) := by
  unfold sC
  split
  · next h => exact Or.inr (Or.inr ⟨rfl, h.1⟩)
  · rcases sC1_01 (s := s) (d := d) (f := f) (u := u) (st := st) (V := V) (sh := sh) with h | h
    · exact Or.inl h
    · exact Or.inr (Or.inl h)
theorem ctx_fr {I J : e_I} {L M : e_L} {s d f u j : Nat} {V sh : Nat → Nat} (h13 : ∀ i, J 13 i = I 13 i) (h14 : ∀ i, J 14 i = I 14 i) (h11 : ∀ i, J 11 i = I 11 i) (h17 : ∀ i, J 17 i = I 17 i) (h15 : ∀ i, M 15 i = L 15 i) (h16 : ∀ i, M 16 i = L 16 i) (h : c_ctx I L s d f u j V sh) : c_ctx J M s d f u j V sh := by
  obtain ⟨⟨hr, hT⟩, ha, hh, hu, hV, hj⟩ := h
  refine ⟨⟨hr, c_T_fr h13 h14 hT⟩, ?_, fun e he => ?_, (h16 j).trans hu, fun q hq => (h15 _).trans (hV q hq), hj⟩
  · unfold c_any
    rw [h11]
    exact ha
  · rw [h17]
    exact hh e he
theorem TO_tr {g B : Nat} {I I2 J J2 : e_I} {M M2 : e_L} {o7 o8 : Option (Int32 × e_I × e_L)} (hI : fr (cF g) I I2) (hJ : fr mF J J2) (hM : frL mL M M2) (h : TO g B I2 J2 M2 o7 o8) : TO g B I J M o7 o8 := by
  obtain ⟨r, I', L', J', M', a1, a2, a3, a4, a5, a6⟩ := h
  exact ⟨r, I', L', J', M', a1, a2, a3, fr_tr hI a4, fr_tr hJ a5, frL_tr hM a6⟩
theorem S_64 {g B c s d f sl ti b fc st n w x p e : Nat} {CH : Nat → Nat → Nat} {O : Nat → Nat} {I : e_I} {L : e_L} {J : e_I} {M : e_L} (hg : 23 ≤ g) (h : TN g c s d f sl ti CH O b fc st n w x I L J M) (hfB : fc ≤ B) (hB2 : B < 100000) (hp : p < c) (ep : O p = b) (hf : ∀ i, i < p → O i ≠ b) (he : e = 7 ∨ e = 8) (hc : mC e st = true) (hx : c_ctx I L s d f 400 1 (LV s d f c sl ti 2 2 p fc CH O 1) (sh1 ti CH b fc)) (hl : c_look I 1 sl) : TO g (B + 1) I J M (f_X5_playOne_64 g (I g 1) (nI e) I L) (f_X8_turn_52 (J 85 69) (nI e) 0 J M) := by
  obtain ⟨I', J', a1, a2, a3, a4, a5⟩ := S_hap hg h hp ep hf (by omega) hc (by omega)
  have r0 : mR s d f e st = 0 := by
    rcases he with rfl | rfl
    · exact mR7
    · exact mR8
  have b0 : hB c e b p O = b := if_neg (by omega)
  have f0 : hF e fc = fc := if_neg (by omega)
  rw [r0] at a1 a2
  rw [b0, f0] at a3
  have t69 : (69 : Int32).toNatClampNeg = 69 := rfl
  have k1 : I g 1 = J 85 69 := h.2.2.2.1.1
  have k2 : I' g 1 = J' 85 69 := a3.2.2.2.1.1
  have z0 : (0 : Int32) + nI 0 = 0 := rfl
  unfold f_X5_playOne_64 f_X8_turn_52
  rw [a1, r_b2, a2, r_b2, z0]
  show TO g (B + 1) I J M _ (if J' 85 (69 : Int32).toNatClampNeg = J 85 69 then _ else _)
  rw [t69, ← k1, ← k2]
  by_cases q : I' g 1 = I g 1
  · rw [if_pos q, if_pos q]
    have gN := a3.1
    have hs1 := gN.2.2.2.2.1
    have hb : b < c := gN.2.2.2.1
    have bd := C_bnd (k := 2) (fi := p) (fc := fc) (j := 1) (f0 := fc) (b0 := b) gN.1 gN.1.2.2.1 gN.2.1 (by decide) hb
    have cx : c_ctx I' L s d f 400 1 (LV s d f c sl ti 2 2 p fc CH O 1) (sh1 ti CH b fc) := ctx_fr (fun i => a4 13 i (fun z => by rcases z with z | z <;> omega)) (fun i => a4 14 i (fun z => by rcases z with z | z <;> omega)) (fun i => a4 11 i (fun z => by rcases z with z | z <;> omega)) (fun i => a4 17 i (fun z => by rcases z with z | z <;> omega)) (fun _ => rfl) (fun _ => rfl) hx
    have lk : c_look I' 1 sl := by
      unfold c_look
      rw [a4 11 7 (fun z => by rcases z with z | z <;> omega), a4 11 6 (fun z => by rcases z with z | z <;> omega)]
      exact hl
    have sw : f_X1_swingIn (I' g 2) I' L = some (nI (sC1 s d f 400 (LV s d f c sl ti 2 2 p fc CH O 1) (sh1 ti CH b fc) (hS s d f e st))) := by
      rw [a3.2.1.2.2.2.1]
      exact C_swingIn cx bd.1 lk hs1
    obtain ⟨⟨y, J2, M2⟩, y1, y2, y3, y4⟩ := S_ch0 (M := M) gN.1 a3.2.2.1 gN.2.1 hp ep hf (by omega) hs1
    have y2 : y = _ := y2
    have y3 : fr m_S4 J' J2 := y3
    have y4 : frL m_SL M M2 := y4
    rw [sw, r_b1, y1]
    show TO g (B + 1) I J M _ (f_X8_turn_77 y 0 J2 M2)
    rw [y2]
    refine TO_tr (cF_h a4) (fr_tr (mF_h a5) (mF_4 y3)) (mL_S y4) (S_89 hg (TN_m y3 y4 a3) hfB hB2 (fun z => ?_))
    rcases sC1_01 (s := s) (d := d) (f := f) (u := 400) (st := hS s d f e st) (V := LV s d f c sl ti 2 2 p fc CH O 1) (sh := sh1 ti CH b fc) with h' | h'
    · rw [h'] at z
      exact absurd z (by decide)
    · exact h'.2
  · rw [if_neg q, if_neg q]
    exact ⟨0, I', L, J', M, rfl, rfl, ⟨c, s, d, f, sl, ti, CH, O, _, _, _, _, _, x, a3, by omega⟩, cF_h a4, mF_h a5, frL_rfl⟩
theorem S_turn {g B : Nat} {I : e_I} {L : e_L} {J : e_I} {M : e_L} (v : Int32) (hg : 23 ≤ g) (hB2 : B < 100000) (h : TR g B I L J M) : TO g (B + 1) I J M (f_X5_playOne g v I L) (f_X8_turn v J M) := by
  obtain ⟨c, s, d, f, sl, ti, CH, O, b, fc, st, n, w, x, h, hfB⟩ := h
  unfold f_X5_playOne f_X8_turn
  by_cases hv : v = 0
  · rw [if_pos hv, if_pos hv]
    unfold f_X5_playOne_28 f_X8_turn_13
    rw [if_pos (by decide), if_pos (by decide)]
    exact S_89 (v := 0) hg h hfB hB2 (fun z => absurd z (by decide))
  · rw [if_neg hv, if_neg hv]
    obtain ⟨p, hp, ep, hf⟩ := GN_place h.1
    obtain ⟨gN, gC, gM, g2, gT, z11, zZ, s1, s2, hx⟩ := id h
    have hs1 := gN.2.2.2.2.1
    have hb : b < c := gN.2.2.2.1
    obtain ⟨⟨I1, L1⟩, l1, l2, l3, l4, l5, l6, l7, l8⟩ := C_lookAhead (I := I) (L := L) (k := 2) (O := O) hg gC.1 gN.1 gN.1.2.2.1 gT z11 zZ gC.2.1 gC.2.2.1 hp ep hf (by decide) (by decide) (by omega)
    have l2 : fr c_S11 I I1 := l2
    have l3 : frL c_SL L L1 := l3
    have l4 : c_Z L1 := l4
    have l5 : I1 11 5 = 0 := l5
    have l6 : c_ctx I1 L1 s d f 400 1 (LV s d f c sl ti 2 2 p fc CH O 1) (sh1 ti CH b fc) := l6
    have l7 : c_look I1 1 sl := l7
    have h1 := TN_c hg l2 l3 l5 l4 h
    have bd := C_bnd (k := 2) (fi := p) (fc := fc) (j := 1) (f0 := fc) (b0 := b) gN.1 gN.1.2.2.1 gN.2.1 (by decide) hb
    obtain ⟨⟨y, J1, M1⟩, y1, y2, y3, y4⟩ := S_ch1 (M := M) gN.1 gM gN.2.1 hp ep hf (by omega) hs1
    have y2 : y = _ := y2
    have y3 : fr m_S4 J J1 := y3
    have y4 : frL m_SL M M1 := y4
    have h2 := TN_m y3 y4 h1
    have cI : fr (cF g) I I1 := fr_mono (fun a i z => Or.inr (Or.inr z)) l2
    rw [C_ruled gC.1, r_b1]
    have l1 : f_X1_lookAhead g 2 (nI sl) I L = some (I1, L1) := l1
    have e2 : I1 g 2 = nI st := h1.2.1.2.2.2.1
    have ch : f_X1_choiceIn (I1 g 2) I1 L1 = some y := by
      rw [e2, y2]
      exact C_choiceIn l6 bd.1 (bd.2 _ hs1) l7 hs1
    rw [l1, r_b2, ch, r_b1, y1]
    show TO g (B + 1) I J M _ (f_X8_turn_13 y J1 M1)
    refine TO_tr cI (mF_4 y3) (mL_S y4) ?_
    unfold f_X5_playOne_28 f_X8_turn_13
    rw [y2]
    rcases sC_012 (s := s) (d := d) (f := f) (u := 400) (sl := sl) (st := st) (V := LV s d f c sl ti 2 2 p fc CH O 1) (sh := sh1 ti CH b fc) with k | k | k
    · rw [k, if_pos (by decide), if_pos (by decide)]
      exact S_89 (v := nI 0) hg h2 hfB hB2 (fun z => absurd z (by decide))
    · rw [k.1, if_pos (by decide), if_pos (by decide)]
      exact S_89 hg h2 hfB hB2 (fun _ => k.2)
    · rw [k.1, if_neg (by decide), if_neg (by decide)]
      obtain ⟨x', d1, d2, d3⟩ := S_draw h2
      have t69 : (69 : Int32).toNatClampNeg = 69 := rfl
      have t4 : (4 : Int32).toNatClampNeg = 4 := rfl
      have m4 : J1 85 4 = nI sl := h2.2.2.1.1.2.2.1
      have cx : c_ctx I1 (e_ul L1 22 0 (lN x')) s d f 400 1 (LV s d f c sl ti 2 2 p fc CH O 1) (sh1 ti CH b fc) := ctx_fr (fun _ => rfl) (fun _ => rfl) (fun _ => rfl) (fun _ => rfl) (fun _ => ul_a (by decide)) (fun _ => ul_a (by decide)) l6
      rw [let_eq, let_eq, d1, r_b2, d2, r_b2, C_ruled h1.2.1.1, r_b1, t69, t4, m4]
      refine TO_tr (M2 := e_ul M1 83 31 (lN x')) (fr_rfl) (fr_rfl) (frL_ul (Or.inl rfl)) ?_
      by_cases q : nI (x' % 20) ≥ nI sl
      · rw [if_pos q, if_pos q]
        exact S_64 (e := 8) hg d3 hfB hB2 hp ep hf (Or.inr rfl) k.2 cx l7
      · rw [if_neg q, if_neg q]
        exact S_64 (e := 7) hg d3 hfB hB2 hp ep hf (Or.inl rfl) k.2 cx l7
