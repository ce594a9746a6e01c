-- ACTS: relieve, begin, swap, shift
theorem un1 : f_X8_unless 1 = some 0 := by
  rw [r_unless]
  rfl
theorem un0 : f_X8_unless 0 = some 1 := by
  rw [r_unless]
  rfl
-- what an act's two halves come to
theorem act_go {t : Nat} {I : e_I} {L : e_L} (h : Rl t I L) (hx : I 83 6 ≠ 0) (ht : t < 600) {o7 : Option (Int32 × e_I)} {f8 : e_I → Option (Int32 × e_I)} (k7 : e_I → Option (Int32 × e_I)) (k8 : e_I → Option (Int32 × e_I)) (e7 : o7 = e_b1 (f_X4_keep 23 (r_R7 I 0)) k7) (e8 : ∀ J, J 83 6 = I 83 6 → (∀ i, J 85 i = I 85 i) → f8 J = e_b1 (f_X8_remembers (r_R8 J 0)) k8)
    {c s d f sl ti b fc st n w : Nat} {CH : Nat → Nat → Nat} {O : Nat → Nat} (gN : GN c s d f sl ti CH O b st n w) (gC : GC I 23 c s d f sl ti CH O b fc st n w) (gM : GM I c s d f sl ti CH O b fc st n) (g2 : G2 I I 23 n w) (gT : c_T I s d f) (gf : fc ≤ 100 * t)
    {c' s' d' f' sl' ti' b' fc' st' n' w' : Nat} {CH' : Nat → Nat → Nat} {O' : Nat → Nat} (gN' : GN c' s' d' f' sl' ti' CH' O' b' st' n' w') (gf' : fc' ≤ 100 * (t + 1)) (x : Int32)
    (h7 : ∀ A, GC A 23 c s d f sl ti CH O b fc st n w → c_T A s d f → (∀ a i, 23 ≤ a → a ≤ 27 → A a i = I a i) → wp (k7 A) (fun q => q.1 = x ∧ (∀ a i, ¬ (23 ≤ a ∧ a ≤ 27) → a ≠ 12 → a ≠ 13 → a ≠ 14 → q.2 a i = A a i) ∧ GC q.2 23 c' s' d' f' sl' ti' CH' O' b' fc' st' n' w' ∧ c_T q.2 s' d' f' ∧ ∀ B, GM B c s d f sl ti CH O b fc st n → (∀ i, B 85 i = I 85 i) → wp (k8 B) (fun y => y.1 = x ∧ (∀ a i, a ≠ 85 → y.2 a i = B a i) ∧ GM y.2 c' s' d' f' sl' ti' CH' O' b' fc' st' n' ∧ G2 q.2 y.2 23 n' w' ∧ y.2 85 0 = B 85 0))) : ∃ r I1 I2, o7 = some (r, I1) ∧ f8 I1 = some (r, I2) ∧ Rl (t + 1) I2 L := by
  obtain ⟨T, C, p1, hT10, p2, hC, p33⟩ := past_TC h.2.2.2.1
  refine st_1 ?_
  rw [e7]
  refine wp_c1 (C_keep (I := r_R7 I 0) p1 hT10 p2 hC) (fun A hA => ?_)
  obtain ⟨kg, ko⟩ := kp_game hT10 hA.1
  have gCA : GC A 23 c s d f sl ti CH O b fc st n w := GC_same kg gC
  have gTA : c_T A s d f := c_T_fr (fun i => ko 13 i (by omega)) (fun i => ko 14 i (by omega)) gT
  refine wp_mono (h7 A gCA gTA (fun a i x y => (kg a i x y).trans (by unfold r_R7; rw [ui_a (show a ≠ 0 by omega)]))) (fun q hq => ?_)
  obtain ⟨q1, q2, q3, q4, q5⟩ := hq
  have i85 : ∀ i, q.2 85 i = I 85 i := fun i => (q2 85 i (by omega) (by decide) (by decide) (by decide)).trans (ko 85 i (by omega))
  have i83 : ∀ i, q.2 83 i = I 83 i := fun i => (q2 83 i (by omega) (by decide) (by decide) (by decide)).trans (ko 83 i (by omega))
  rw [e8 q.2 (i83 6) i85]
  refine wp_c1 (M_rem (I := r_R8 q.2 0) hC ((i83 33).trans p33)) (fun B hB => ?_)
  have b85 : ∀ i, B 85 i = I 85 i := fun i => (hB.1 85 i (fun z => by rcases z with z | z <;> omega)).trans (i85 i)
  have gMB : GM B c s d f sl ti CH O b fc st n := GM_same b85 gM
  refine wp_mono (q5 B gMB b85) (fun y hy => ?_)
  obtain ⟨y1, y2, y3, y4, y5⟩ := hy
  refine ⟨y1.trans q1.symm, ?_⟩
  refine Rl_act2 h hx ht p1 hT10 p2 hC hA (fun a i l z1 z2 z3 => q2 a i z1 (fun z => by
    subst z
    cases (show false = true from l)) z2 z3) hB (fun a i _ na => y2 a i na) gN' q3 y3 y4 q4 gf' (y5.trans (b85 0)) ?_ h.2.2.2.2.1.2
  have e2 : B 11 5 = q.2 11 5 := hB.1 11 5 (fun z => by rcases z with z | z <;> omega)
  rw [y2 11 5 (by decide), e2, q2 11 5 (by omega) (by decide) (by decide) (by decide), ko 11 5 (by omega)]
  exact h.2.2.2.2.1.1
theorem C_beginAnew {I : e_I} {g : Nat} : wp (f_X0_beginAnew g I) (fun J => (∀ a i, a ≠ g → J a i = I a i) ∧ J g 0 = I g 0 ∧ J g 1 = 1 ∧ J g 2 = nI 0 ∧ J g 3 = 0 ∧ J g 4 = I (g + 3) 0 ∧ J g 5 = nI 0 ∧ J g 6 = nI 0 ∧ J g 7 = nI 0) := by
  have gn : g + 3 ≠ g := by omega
  unfold f_X0_beginAnew
  refine wp_let (wp_let (wp_let (wp_let (wp_let (wp_let (wp_let (wp_some ?_)))))))
  have r : e_ui (e_ui (e_ui I g 1 1) g 2 0) g 3 0 (g + 3) (0 : Int32).toNatClampNeg = I (g + 3) 0 := by
    rw [ui_a gn, ui_a gn, ui_a gn]
    rfl
  rw [r]
  refine ⟨fun a i z => by rw [ui_a z, ui_a z, ui_a z, ui_a z, ui_a z, ui_a z, ui_a z], ?_, ?_, ?_, ?_, ?_, ?_, ?_, ui_s⟩
  · rw [ui_i (by decide), ui_i (by decide), ui_i (by decide), ui_i (by decide), ui_i (by decide), ui_i (by decide), ui_i (by decide)]
  · rw [ui_i (by decide), ui_i (by decide), ui_i (by decide), ui_i (by decide), ui_i (by decide), ui_i (by decide), ui_s]
  · rw [ui_i (by decide), ui_i (by decide), ui_i (by decide), ui_i (by decide), ui_i (by decide), ui_s]
    rfl
  · rw [ui_i (by decide), ui_i (by decide), ui_i (by decide), ui_i (by decide), ui_s]
  · rw [ui_i (by decide), ui_i (by decide), ui_i (by decide), ui_s]
  · rw [ui_i (by decide), ui_i (by decide), ui_s]
    rfl
  · rw [ui_i (by decide), ui_s]
    rfl
theorem M_begins {I : e_I} : wp (f_X8_begins 85 I) (fun K => (∀ a i, a ≠ 85 → K a i = I a i) ∧ (∀ i, i < 69 ∨ 76 ≤ i → K 85 i = I 85 i) ∧ K 85 69 = 1 ∧ K 85 70 = 0 ∧ K 85 71 = 0 ∧ K 85 72 = I 85 60 ∧ K 85 73 = 0 ∧ K 85 74 = 0 ∧ K 85 75 = 0) := by
  have t69 : (69 : Int32).toNatClampNeg = 69 := rfl
  have t70 : (70 : Int32).toNatClampNeg = 70 := rfl
  have t71 : (71 : Int32).toNatClampNeg = 71 := rfl
  have t72 : (72 : Int32).toNatClampNeg = 72 := rfl
  have t73 : (73 : Int32).toNatClampNeg = 73 := rfl
  have t74 : (74 : Int32).toNatClampNeg = 74 := rfl
  have t75 : (75 : Int32).toNatClampNeg = 75 := rfl
  have t60 : (60 : Int32).toNatClampNeg = 60 := rfl
  unfold f_X8_begins
  rw [t69, t70, t71, t72, t73, t74, t75, t60]
  refine wp_as (by decide) (wp_let (wp_as (by decide) (wp_let (wp_as (by decide) (wp_let (wp_as (by decide) (wp_as (by decide) (wp_let (wp_as (by decide) (wp_let (wp_as (by decide) (wp_let (wp_as (by decide) (wp_let (wp_some ?_)))))))))))))))
  have r : e_ui (e_ui (e_ui I 85 69 1) 85 70 0) 85 71 0 85 60 = I 85 60 := by
    rw [ui_i (by decide), ui_i (by decide), ui_i (by decide)]
  rw [r]
  refine ⟨fun a i z => by rw [ui_a z, ui_a z, ui_a z, ui_a z, ui_a z, ui_a z, ui_a z], fun i hi => ?_, ?_, ?_, ?_, ?_, ?_, ?_, ui_s⟩
  · rw [ui_i (by omega), ui_i (by omega), ui_i (by omega), ui_i (by omega), ui_i (by omega), ui_i (by omega), ui_i (by omega)]
  · rw [ui_i (by decide), ui_i (by decide), ui_i (by decide), ui_i (by decide), ui_i (by decide), ui_i (by decide), ui_s]
  · rw [ui_i (by decide), ui_i (by decide), ui_i (by decide), ui_i (by decide), ui_i (by decide), ui_s]
  · rw [ui_i (by decide), ui_i (by decide), ui_i (by decide), ui_i (by decide), ui_s]
  · rw [ui_i (by decide), ui_i (by decide), ui_i (by decide), ui_s]
  · rw [ui_i (by decide), ui_i (by decide), ui_s]
  · rw [ui_i (by decide), ui_s]
theorem T_relieve (t : Nat) (ht : t < 600) : ST_relieve (Rl t) (Rl (t + 1)) := by
  intro I L h
  have hx := Rl_hx h
  by_cases hx0 : I 83 6 = 0
  · refine bad_1 (v := 1) (o7 := f_X7_relieve I) (f8 := f_X8_relieve) h (by decide) ?_ ?_
    · unfold f_X7_relieve f_X7_relieve_13
      rw [hx, r_b1, if_pos hx0, r_refused]
      rfl
    · unfold f_X8_relieve
      rw [show r_R7 I 1 83 6 = 0 from hx0, un0, r_b1, r_isRefused]
      rfl
  · obtain ⟨c, s, d, f, sl, ti, CH, O, b, fc, st, n, w, gN, gC, gM, g2, gT, gf⟩ := Rl_nums h hx0 ht
    refine act_go (o7 := f_X7_relieve I) (f8 := f_X8_relieve) h hx0 ht (fun (I_4 : e_I) => e_let (I_4 23 5) (fun (x_5 : Int32) => e_let (e_ui I_4 23 5 0) (fun (I_6 : e_I) => some (x_5, I_6)))) (fun (I_5 : e_I) => e_let (I_5 85 (73 : Int32).toNatClampNeg) (fun (x_6 : Int32) => e_let (e_ui I_5 85 (73 : Int32).toNatClampNeg 0) (fun (I_7 : e_I) => some (x_6, I_7)))) ?_ ?_ gN gC gM g2 gT gf (fc' := 0) gN (by omega) (nI fc) ?_
    · unfold f_X7_relieve f_X7_relieve_13
      rw [hx, r_b1, if_neg hx0, r_refused, r_b2, if_pos (by rfl)]
    · intro J hJ _
      have e : f_X8_unless (J 83 6) = some 0 := by
        rw [hJ, r_unless, if_neg hx0]
      unfold f_X8_relieve
      rw [e, r_b1, r_isRefused, r_b2, if_pos (by rfl)]
    · intro A aC aT aI
      have a5 := aC.2.2.1
      refine wp_let (wp_let (wp_some ?_))
      generalize hD : e_ui A 23 5 0 = D
      have d0 : ∀ a i, a ≠ 23 → D a i = A a i := fun a i z => by rw [← hD, ui_a z]
      have d1 : ∀ i, i ≠ 5 → D 23 i = A 23 i := fun i z => by rw [← hD, ui_i z]
      have d5 : D 23 5 = nI 0 := by rw [← hD, ui_s]; rfl
      obtain ⟨v, k4, k5, k2, k6, k7⟩ := aC
      refine ⟨a5, fun a i z _ _ _ => d0 a i (by omega), ⟨⟨(d1 0 (by decide)).trans v.1, ⟨(d0 25 0 (by decide)).trans v.2.1.1, (d0 25 1 (by decide)).trans v.2.1.2.1, (d0 25 2 (by decide)).trans v.2.1.2.2.1, (d0 25 3 (by decide)).trans v.2.1.2.2.2.1, (d0 25 4 (by decide)).trans v.2.1.2.2.2.2⟩, fun x1 hx1 x2 hx2 => (d0 24 _ (by decide)).trans (v.2.2.1 x1 hx1 x2 hx2), fun x1 hx1 => ⟨(d0 26 _ (by decide)).trans (v.2.2.2 x1 hx1).1, (v.2.2.2 x1 hx1).2⟩⟩, (d1 4 (by decide)).trans k4, d5, (d1 2 (by decide)).trans k2, (d1 6 (by decide)).trans k6, (d1 7 (by decide)).trans k7⟩, c_T_fr (fun i => d0 13 i (by decide)) (fun i => d0 14 i (by decide)) aT, fun B bM b85 => ?_⟩
      have t73 : (73 : Int32).toNatClampNeg = 73 := rfl
      rw [t73]
      obtain ⟨mv, mo, m72, m73, m70, m71, m75⟩ := bM
      refine wp_let (wp_let (wp_some ?_))
      generalize hE : e_ui B 85 73 0 = E
      have f0 : ∀ a i, a ≠ 85 → E a i = B a i := fun a i z => by rw [← hE, ui_a z]
      have o : ∀ i, i ≠ 73 → E 85 i = B 85 i := fun i z => by rw [← hE, ui_i z]
      have f73 : E 85 73 = nI 0 := by rw [← hE, ui_s]; rfl
      have c9 := gN.1.1.2
      refine ⟨m73, f0, ⟨⟨(o 0 (by decide)).trans mv.1, ⟨(o 1 (by decide)).trans mv.2.1.1, (o 2 (by decide)).trans mv.2.1.2.1, (o 3 (by decide)).trans mv.2.1.2.2⟩, (o 4 (by decide)).trans mv.2.2.1, (o 5 (by decide)).trans mv.2.2.2.1, fun x1 hx1 x2 hx2 => (o _ (by omega)).trans (mv.2.2.2.2 x1 hx1 x2 hx2)⟩, fun i hi => (o _ (by omega)).trans (mo i hi), (o 72 (by decide)).trans m72, f73, (o 70 (by decide)).trans m70, (o 71 (by decide)).trans m71, (o 75 (by decide)).trans m75⟩, ?_, o 0 (by decide)⟩
      obtain ⟨h1, h3, hl⟩ := g2
      refine ⟨?_, ?_, fun j hj => ?_⟩
      · show D 23 1 = E 85 69
        rw [d1 1 (by decide), o 69 (by decide), b85, aI 23 1 (by decide) (by decide)]
        exact h1
      · show D 23 3 = E 85 74
        rw [d1 3 (by decide), o 74 (by decide), b85, aI 23 3 (by decide) (by decide)]
        exact h3
      · refine r_note_congr (fun i hi => ?_) (fun i hi => ?_) (hl j hj)
        · show D 27 _ = _
          rw [d0 27 _ (by decide), aI 27 _ (by decide) (by decide)]
        · show E 85 _ = _
          rw [o _ (by omega), b85]
theorem T_begin (t : Nat) (ht : t < 600) : ST_begin (Rl t) (Rl (t + 1)) := by
  intro I L h
  have hx := Rl_hx h
  by_cases hx0 : I 83 6 = 0
  · refine bad_1 (v := 1) (o7 := f_X7_begin I) (f8 := f_X8_begin) h (by decide) ?_ ?_
    · unfold f_X7_begin f_X7_begin_13
      rw [hx, r_b1, if_pos hx0, r_refused]
      rfl
    · unfold f_X8_begin
      rw [show r_R7 I 1 83 6 = 0 from hx0, un0, r_b1, r_isRefused]
      rfl
  · obtain ⟨c, s, d, f, sl, ti, CH, O, b, fc, st, n, w, gN, gC, gM, g2, gT, gf⟩ := Rl_nums h hx0 ht
    have c0 := gN.1.1.1
    have c9 := gN.1.1.2
    have gN' : GN c s d f sl ti CH O (O 0) 0 0 0 := ⟨gN.1, gN.2.1, gN.2.2.1, gN.2.1 0 c0, by decide, by decide, by decide⟩
    refine act_go (o7 := f_X7_begin I) (f8 := f_X8_begin) h hx0 ht (fun (I_4 : e_I) => e_let (I_4 23 3) (fun (x_5 : Int32) => e_b1 (f_X0_beginAnew 23 I_4) (fun (I_6 : e_I) => some (x_5, I_6)))) (fun (I_5 : e_I) => e_let (I_5 85 (74 : Int32).toNatClampNeg) (fun (x_6 : Int32) => e_b1 (f_X8_begins 85 I_5) (fun (I_7 : e_I) => some (x_6, I_7)))) ?_ ?_ gN gC gM g2 gT gf (fc' := 0) gN' (by omega) (I 23 3) ?_
    · unfold f_X7_begin f_X7_begin_13
      rw [hx, r_b1, if_neg hx0, r_refused, r_b2, if_pos (by rfl)]
    · intro J hJ _
      have e : f_X8_unless (J 83 6) = some 0 := by
        rw [hJ, r_unless, if_neg hx0]
      unfold f_X8_begin
      rw [e, r_b1, r_isRefused, r_b2, if_pos (by rfl)]
    · intro A aC aT aI
      obtain ⟨v, k4, k5, k2, k6, k7⟩ := aC
      refine wp_let (wp_c1 (C_beginAnew (g := 23)) (fun D hD => wp_some ?_))
      obtain ⟨d0, e0, e1, e2, e3, e4, e5, e6, e7⟩ := hD
      refine ⟨aI 23 3 (by decide) (by decide), fun a i z _ _ _ => d0 a i (by omega), ⟨⟨e0.trans v.1, ?_, fun x1 hx1 x2 hx2 => (d0 24 _ (by decide)).trans (v.2.2.1 x1 hx1 x2 hx2), fun x1 hx1 => ⟨(d0 26 _ (by decide)).trans (v.2.2.2 x1 hx1).1, (v.2.2.2 x1 hx1).2⟩⟩, e4.trans (v.2.2.2 0 c0).1, e5, e2, e6, e7⟩, c_T_fr (fun i => d0 13 i (by decide)) (fun i => d0 14 i (by decide)) aT, fun B bM b85 => ?_⟩
      · exact ⟨(d0 25 0 (by decide)).trans v.2.1.1, (d0 25 1 (by decide)).trans v.2.1.2.1, (d0 25 2 (by decide)).trans v.2.1.2.2.1, (d0 25 3 (by decide)).trans v.2.1.2.2.2.1, (d0 25 4 (by decide)).trans v.2.1.2.2.2.2⟩
      · obtain ⟨mv, mo, m72, m73, m70, m71, m75⟩ := bM
        refine wp_let (wp_c1 M_begins (fun E hE => wp_some ?_))
        obtain ⟨f0, f1, f69, f70, f71, f72, f73, f74, f75⟩ := hE
        refine ⟨?_, f0, ⟨⟨(f1 0 (by decide)).trans mv.1, ⟨(f1 1 (by decide)).trans mv.2.1.1, (f1 2 (by decide)).trans mv.2.1.2.1, (f1 3 (by decide)).trans mv.2.1.2.2⟩, (f1 4 (by decide)).trans mv.2.2.1, (f1 5 (by decide)).trans mv.2.2.2.1, fun x1 hx1 x2 hx2 => (f1 _ (by omega)).trans (mv.2.2.2.2 x1 hx1 x2 hx2)⟩, fun i hi => (f1 _ (by omega)).trans (mo i hi), f72.trans (mo 0 c0), f73, f70, f71, f75⟩, ⟨e1.trans f69.symm, e3.trans f74.symm, fun j hj => by omega⟩, f1 0 (by decide)⟩
        show B 85 74 = I 23 3
        rw [b85]
        exact g2.2.1.symm
