-- ACTS: become
theorem C_ruledAt {I : e_I} {g x : Nat} (hx : x < 5) : f_X0_ruled g (nI x) I = some (I (g + 2) x) := by
  unfold f_X0_ruled f_X0_ruled_19 e_as
  rw [r_within, if_pos (show (0 : Int32) ≤ nI x ∧ nI x ≤ 4 from ⟨nI_pos' (by omega), nI_le (b := 4) (by omega) (by decide)⟩), r_b1, if_neg (by decide), if_pos (nI_ix (by omega) (by omega)), nI_clamp (by omega)]
theorem C_putRule {I : e_I} {g x : Nat} {v : Int32} (hx : x < 5) : f_X0_putRule g (nI x) v I = some (e_ui I (g + 2) x v) := by
  unfold f_X0_putRule f_X0_putRule_16 e_as
  rw [r_within, if_pos (show (0 : Int32) ≤ nI x ∧ nI x ≤ 4 from ⟨nI_pos' (by omega), nI_le (b := 4) (by omega) (by decide)⟩), r_b1, if_neg (by decide), if_pos (nI_ix (by omega) (by omega)), nI_clamp (by omega)]
  rfl
theorem C_fitM {I : e_I} {c s d f sl ti : Nat} {CH : Nat → Nat → Nat} {O : Nat → Nat} (hv : CV I 23 c s d f sl ti CH O) (hr : RV s d f) : wp (f_X7_fitMoves I) (fun J => fr c_S I J ∧ c_T J s d f) := by
  unfold f_X7_fitMoves
  refine wp_e1 (C_ruledAt (g := 23) (x := 0) (by decide)) (wp_e1 (C_ruledAt (g := 23) (x := 1) (by decide)) (wp_e1 (C_ruledAt (g := 23) (x := 2) (by decide)) ?_))
  rw [show I (23 + 2) 0 = nI s from hv.2.1.1, show I (23 + 2) 1 = nI d from hv.2.1.2.1, show I (23 + 2) 2 = nI f from hv.2.1.2.2.1]
  exact wp_c1 (c_fits hr) (fun J hJ => wp_some hJ)
theorem t_02 {c : Prop} [Decidable c] : (if (if c then (1 : Int32) else 0) = 0 then (2 : Int32) else 0) = if c then 0 else 2 := by
  by_cases h : c
  · rw [if_pos h, if_pos h]
    rfl
  · rw [if_neg h, if_neg h]
    rfl
def tB (tx x v : Int32) : Int32 := if tx = 0 then 1 else if 0 ≤ x ∧ x ≤ 4 then (if (x = 0 ∧ (1 ≤ v ∧ v ≤ 2)) ∨ (x = 1 ∧ (2 ≤ v ∧ v ≤ 3)) ∨ (x = 2 ∧ (0 ≤ v ∧ v ≤ 1)) ∨ (x = 3 ∧ (0 ≤ v ∧ v ≤ 20)) ∨ (x = 4 ∧ (1 ≤ v ∧ v ≤ 99)) then 0 else 2) else 1
theorem t_rule {x v : Int32} : f_X7_isRule x v = some (if (x = 0 ∧ (1 ≤ v ∧ v ≤ 2)) ∨ (x = 1 ∧ (2 ≤ v ∧ v ≤ 3)) ∨ (x = 2 ∧ (0 ≤ v ∧ v ≤ 1)) ∨ (x = 3 ∧ (0 ≤ v ∧ v ≤ 20)) ∨ (x = 4 ∧ (1 ≤ v ∧ v ≤ 99)) then 1 else 0) := by
  unfold f_X7_isRule e_as
  rw [r_within, r_within, r_within, r_within, r_within, r_b1, r_b1, r_b1, r_b1, r_b1, if_pos t_b, if_pos t_b, if_pos t_b, if_pos t_b, if_pos t_b]
  by_cases h0 : x = 0
  · subst h0
    rw [if_pos rfl]
    congr 1
    simp
  · rw [if_neg h0]
    by_cases h1 : x = 1
    · subst h1
      rw [if_pos rfl]
      congr 1
      simp
    · rw [if_neg h1]
      by_cases h2 : x = 2
      · subst h2
        rw [if_pos rfl]
        congr 1
        simp
      · rw [if_neg h2]
        by_cases h3 : x = 3
        · subst h3
          rw [if_pos rfl]
          congr 1
          simp
        · rw [if_neg h3]
          by_cases h4 : x = 4
          · subst h4
            rw [if_pos rfl]
            congr 1
            simp
          · rw [if_neg h4]
            congr 1
            simp [h0, h1, h2, h3, h4]
theorem t_low {x : Int32} : f_X8_lowOf x = some (if x = 0 then 1 else if x = 4 then 1 else if x = 1 then 2 else 0) := by
  unfold f_X8_lowOf f_X8_lowOf_9 f_X8_lowOf_23
  by_cases h0 : x = 0
  · rw [if_pos h0, if_pos h0]
  · rw [if_neg h0, if_neg h0]
    by_cases h4 : x = 4
    · rw [if_neg (fun n => n h4), if_pos h4]
    · rw [if_pos h4, if_neg h4]
      by_cases h1 : x = 1
      · rw [if_neg (fun n => n h1), if_pos h1]
      · rw [if_pos h1, if_neg h1]
theorem t_high {x : Int32} : f_X8_highOf x = some (if x = 0 then 2 else if x = 1 then 3 else if x = 2 then 1 else if x = 3 then 20 else 99) := by
  unfold f_X8_highOf f_X8_highOf_38
  by_cases h0 : x = 0
  · rw [if_neg (fun n => n h0), if_pos h0]
  · rw [if_pos h0, if_neg h0]
    by_cases h1 : x = 1
    · rw [if_neg (fun n => n h1), if_pos h1]
    · rw [if_pos h1, if_neg h1]
      by_cases h2 : x = 2
      · rw [if_neg (fun n => n h2), if_pos h2]
      · rw [if_pos h2, if_neg h2]
        by_cases h3 : x = 3
        · rw [if_neg (fun n => n h3), if_pos h3]
        · rw [if_pos h3, if_neg h3]
theorem t_become7 {I : e_I} {x v : Int32} (hx : f_X7_hasText I = some (I 83 6)) : f_X7_troubleOfBecome x v I = some (tB (I 83 6) x v) := by
  unfold f_X7_troubleOfBecome f_X7_troubleOfBecome_16 f_X7_troubleOfBecome_31 tB
  rw [hx, r_b1]
  by_cases h1 : I 83 6 = 0
  · rw [if_pos h1, if_pos h1]
  · rw [if_neg h1, if_neg h1, r_within, r_b1]
    by_cases h2 : 0 ≤ x ∧ x ≤ 4
    · rw [if_pos h2, if_pos h2, if_pos (by decide), t_rule, r_b1]
      split <;> rfl
    · rw [if_neg h2, if_neg h2, if_neg (fun n => n rfl)]
theorem become8 {J : e_I} {x v : Int32} : ∃ w, f_X8_become x v J = e_b2 (f_X8_isRefused w J) (fun (r_5 : Int32) (I_6 : e_I) =>
  if r_5 = 0 then (
    e_b1 (f_X8_remembers I_6) (fun (I_8 : e_I) =>
    e_as (e_ix ((1 : Int32) + x) 396 = true) (
    e_let (I_8 85 ((1 : Int32) + x).toNatClampNeg) (fun (x_10 : Int32) =>
    e_as (e_ix ((1 : Int32) + x) 396 = true) (
    e_let (e_ui I_8 85 ((1 : Int32) + x).toNatClampNeg v) (fun (I_12 : e_I) =>
    some (x_10, I_12)))))))
  else (
    some ((-1), I_6))) ∧ w = tB (J 83 6) x v := by
  have k22 : ∀ s : Int32, ∃ w, f_X8_become_22 x v s J = e_b2 (f_X8_isRefused w J) (fun (r_5 : Int32) (I_6 : e_I) =>
  if r_5 = 0 then (
    e_b1 (f_X8_remembers I_6) (fun (I_8 : e_I) =>
    e_as (e_ix ((1 : Int32) + x) 396 = true) (
    e_let (I_8 85 ((1 : Int32) + x).toNatClampNeg) (fun (x_10 : Int32) =>
    e_as (e_ix ((1 : Int32) + x) 396 = true) (
    e_let (e_ui I_8 85 ((1 : Int32) + x).toNatClampNeg v) (fun (I_12 : e_I) =>
    some (x_10, I_12)))))))
  else (
    some ((-1), I_6))) ∧ w = if s = 0 then 1 else if (if x = 0 then (1 : Int32) else if x = 4 then 1 else if x = 1 then 2 else 0) ≤ v ∧ v ≤ (if x = 0 then (2 : Int32) else if x = 1 then 3 else if x = 2 then 1 else if x = 3 then 20 else 99) then 0 else 2 := fun s => by
    refine ⟨_, ?_, rfl⟩
    unfold f_X8_become_22
    rw [t_low, r_b1, t_high, r_b1, r_in, r_b1, r_unless_, r_b1]
    congr 2
    by_cases h1 : s = 0
    · rw [if_pos h1, if_pos h1]
    · rw [if_neg h1, if_neg h1]
      exact t_02
  unfold f_X8_become f_X8_become_21 tB
  by_cases h1 : J 83 6 = 0
  · rw [if_pos h1, if_pos h1]
    obtain ⟨w, e, ew⟩ := k22 0
    exact ⟨w, e, ew⟩
  · rw [if_neg h1, if_neg h1, r_in, r_b1]
    by_cases h2 : 0 ≤ x ∧ x ≤ 4
    · rw [if_pos h2, if_pos h2, if_neg (by decide)]
      obtain ⟨w, e, ew⟩ := k22 1
      refine ⟨w, e, ew.trans ?_⟩
      rw [if_neg (by decide)]
      obtain ⟨X, _, hX, rfl⟩ := nI_btw (m := 0) (n := 4) rfl rfl h2.1 h2.2
      have c : X = 0 ∨ X = 1 ∨ X = 2 ∨ X = 3 ∨ X = 4 := by omega
      rcases c with rfl | rfl | rfl | rfl | rfl
      · show (if (1 : Int32) ≤ v ∧ v ≤ 2 then (0 : Int32) else 2) = _
        by_cases q : (1 : Int32) ≤ v ∧ v ≤ 2
        · rw [if_pos q, if_pos (Or.inl ⟨rfl, q⟩)]
        · rw [if_neg q, if_neg (fun z => by rcases z with z | z | z | z | z; exact q z.2; exact absurd z.1 (by decide); exact absurd z.1 (by decide); exact absurd z.1 (by decide); exact absurd z.1 (by decide))]
      · show (if (2 : Int32) ≤ v ∧ v ≤ 3 then (0 : Int32) else 2) = _
        by_cases q : (2 : Int32) ≤ v ∧ v ≤ 3
        · rw [if_pos q, if_pos (Or.inr (Or.inl ⟨rfl, q⟩))]
        · rw [if_neg q, if_neg (fun z => by rcases z with z | z | z | z | z; exact absurd z.1 (by decide); exact q z.2; exact absurd z.1 (by decide); exact absurd z.1 (by decide); exact absurd z.1 (by decide))]
      · show (if (0 : Int32) ≤ v ∧ v ≤ 1 then (0 : Int32) else 2) = _
        by_cases q : (0 : Int32) ≤ v ∧ v ≤ 1
        · rw [if_pos q, if_pos (Or.inr (Or.inr (Or.inl ⟨rfl, q⟩)))]
        · rw [if_neg q, if_neg (fun z => by rcases z with z | z | z | z | z; exact absurd z.1 (by decide); exact absurd z.1 (by decide); exact q z.2; exact absurd z.1 (by decide); exact absurd z.1 (by decide))]
      · show (if (0 : Int32) ≤ v ∧ v ≤ 20 then (0 : Int32) else 2) = _
        by_cases q : (0 : Int32) ≤ v ∧ v ≤ 20
        · rw [if_pos q, if_pos (Or.inr (Or.inr (Or.inr (Or.inl ⟨rfl, q⟩))))]
        · rw [if_neg q, if_neg (fun z => by rcases z with z | z | z | z | z; exact absurd z.1 (by decide); exact absurd z.1 (by decide); exact absurd z.1 (by decide); exact q z.2; exact absurd z.1 (by decide))]
      · show (if (1 : Int32) ≤ v ∧ v ≤ 99 then (0 : Int32) else 2) = _
        by_cases q : (1 : Int32) ≤ v ∧ v ≤ 99
        · rw [if_pos q, if_pos (Or.inr (Or.inr (Or.inr (Or.inr ⟨rfl, q⟩))))]
        · rw [if_neg q, if_neg (fun z => by rcases z with z | z | z | z | z; exact absurd z.1 (by decide); exact absurd z.1 (by decide); exact absurd z.1 (by decide); exact absurd z.1 (by decide); exact q z.2)]
    · rw [if_neg h2, if_neg h2, if_pos rfl]
      obtain ⟨w, e, ew⟩ := k22 0
      exact ⟨w, e, ew⟩
theorem tB_4 {tx x v : Int32} : tB tx x v ≠ 4 := by
  unfold tB
  split
  · decide
  · split
    · split <;> decide
    · decide
theorem become_0 {t : Nat} {I : e_I} {L : e_L} {V : Nat} (h : Rl t I L) (hx0 : I 83 6 ≠ 0) (ht : t < 600) (hV1 : 1 ≤ V) (hV : V ≤ 2) (hb : tB (I 83 6) (nI 0) (nI V) = 0) : ∃ r I1 I2, f_X7_become (nI 0) (nI V) I = some (r, I1) ∧ f_X8_become (nI 0) (nI V) I1 = some (r, I2) ∧ Rl (t + 1) I2 L := by
  have hx := Rl_hx h
  obtain ⟨c, s, d, f, sl, ti, CH, O, b, fc, st, n, w, gN, gC, gM, g2, gT, gf⟩ := Rl_nums h hx0 ht
  have c9 := gN.1.1.2
  have rv := gN.1.2.1
  have rv' : RV V d f := ⟨⟨hV1, hV⟩, rv.2.1, rv.2.2⟩
  have gN' : GN c V d f sl ti CH O b st n w := ⟨⟨gN.1.1, rv', gN.1.2.2.1, gN.1.2.2.2.1, gN.1.2.2.2.2⟩, gN.2⟩
  refine act_go (o7 := f_X7_become (nI 0) (nI V) I) (f8 := f_X8_become (nI 0) (nI V)) h hx0 ht (fun (I_5 : e_I) =>
    e_b1 (f_X0_ruled 23 (nI 0) I_5) (fun (r_6 : Int32) =>
    e_b1 (f_X0_putRule 23 (nI 0) (nI V) I_5) (fun (I_7 : e_I) =>
    e_b1 (f_X7_fitMoves I_7) (fun (I_8 : e_I) =>
    some (r_6, I_8))))) (fun (I_8 : e_I) =>
    e_as (e_ix ((1 : Int32) + nI 0) 396 = true) (
    e_let (I_8 85 ((1 : Int32) + nI 0).toNatClampNeg) (fun (x_10 : Int32) =>
    e_as (e_ix ((1 : Int32) + nI 0) 396 = true) (
    e_let (e_ui I_8 85 ((1 : Int32) + nI 0).toNatClampNeg (nI V)) (fun (I_12 : e_I) =>
    some (x_10, I_12)))))) ?_ ?_ gN gC gM g2 gT gf (fc' := fc) gN' (by omega) (nI s) ?_
  · unfold f_X7_become
    rw [t_become7 hx, r_b1, hb, r_refused, r_b2, if_pos (by rfl)]
  · intro J hJ _
    obtain ⟨w, e, ew⟩ := become8 (J := J) (x := nI 0) (v := nI V)
    rw [hJ, hb] at ew
    rw [e, ew, r_isRefused, r_b2, if_pos (by rfl)]
  · intro A aC aT aI
    obtain ⟨v, k4, k5, k2, k6, k7⟩ := aC
    refine wp_e1 (C_ruledAt (g := 23) (x := 0) (by decide)) (wp_e1 (C_putRule (g := 23) (x := 0) (by decide)) ?_)
    rw [show A (23 + 2) 0 = nI s from v.2.1.1]
    generalize hD : e_ui A (23 + 2) 0 (nI V) = D
    have d0 : ∀ a i, a ≠ 25 → D a i = A a i := fun a i z => by rw [← hD, ui_a z]
    have d25 : ∀ i, i ≠ 0 → D 25 i = A 25 i := fun i z => by rw [← hD, ui_i z]
    have vD : CV D 23 c V d f sl ti CH O := ⟨(d0 23 0 (by decide)).trans v.1, ⟨(by rw [← hD]; exact ui_s), ((d25 1 (by decide)).trans v.2.1.2.1), ((d25 2 (by decide)).trans v.2.1.2.2.1), ((d25 3 (by decide)).trans v.2.1.2.2.2.1), ((d25 4 (by decide)).trans v.2.1.2.2.2.2)⟩, fun x1 hx1 x2 hx2 => (d0 24 _ (by decide)).trans (v.2.2.1 x1 hx1 x2 hx2), fun x1 hx1 => ⟨(d0 26 _ (by decide)).trans (v.2.2.2 x1 hx1).1, (v.2.2.2 x1 hx1).2⟩⟩
    refine wp_c1 (C_fitM vD rv') (fun F hF => wp_some ?_)
    obtain ⟨f0, fT⟩ := hF
    have fD : ∀ a i, a ≠ 12 → a ≠ 13 → a ≠ 14 → F a i = D a i := fun a i x y z => f0 a i (fun q => by rcases q with q | q | q; exact x q; exact y q; exact z q)
    have vF : CV F 23 c V d f sl ti CH O := CV_fr (fun i => fD 23 i (by decide) (by decide) (by decide)) (fun i => fD 24 i (by decide) (by decide) (by decide)) (fun i => fD 25 i (by decide) (by decide) (by decide)) (fun i => fD 26 i (by decide) (by decide) (by decide)) vD
    have f23 : ∀ i, F 23 i = A 23 i := fun i => (fD 23 i (by decide) (by decide) (by decide)).trans (d0 23 i (by decide))
    have f27 : ∀ i, F 27 i = A 27 i := fun i => (fD 27 i (by decide) (by decide) (by decide)).trans (d0 27 i (by decide))
    refine ⟨rfl, fun a i z z1 z2 z3 => (fD a i z1 z2 z3).trans (d0 a i (by omega)), ⟨vF, (f23 4).trans k4, (f23 5).trans k5, (f23 2).trans k2, (f23 6).trans k6, (f23 7).trans k7⟩, fT, fun B bM b85 => ?_⟩
    obtain ⟨mv, mo, m72, m73, m70, m71, m75⟩ := bM
    have ix : (1 : Int32) + nI 0 = nI (1 + 0) := by rw [n1, nI_add]
    have bX : B 85 (1 + 0) = nI s := mv.2.1.1
    rw [ix]
    refine wp_as (nI_ix (by decide) (by decide)) (wp_let (wp_as (nI_ix (by decide) (by decide)) (wp_let (wp_some ?_))))
    rw [nI_clamp (n := 1 + 0) (by decide), bX]
    generalize hE : e_ui B 85 (1 + 0) (nI V) = E
    have e0 : ∀ a i, a ≠ 85 → E a i = B a i := fun a i z => by rw [← hE, ui_a z]
    have eX : E 85 (1 + 0) = nI V := by rw [← hE]; exact ui_s
    have o : ∀ i, i ≠ 1 + 0 → E 85 i = B 85 i := fun i z => by rw [← hE, ui_i z]
    refine ⟨rfl, e0, ⟨⟨(o 0 (by decide)).trans mv.1, ⟨eX, ((o 2 (by decide)).trans mv.2.1.2.1), ((o 3 (by decide)).trans mv.2.1.2.2)⟩, ((o 4 (by decide)).trans mv.2.2.1), ((o 5 (by decide)).trans mv.2.2.2.1), fun x1 hx1 x2 hx2 => (o _ (by omega)).trans (mv.2.2.2.2 x1 hx1 x2 hx2)⟩, fun i hi => (o _ (by omega)).trans (mo i hi), (o 72 (by decide)).trans m72, (o 73 (by decide)).trans m73, (o 70 (by decide)).trans m70, (o 71 (by decide)).trans m71, (o 75 (by decide)).trans m75⟩, ?_, o 0 (by decide)⟩
    obtain ⟨g1, g3, gl⟩ := g2
    refine ⟨?_, ?_, fun j hj => ?_⟩
    · show F 23 1 = E 85 69
      rw [f23 1, o 69 (by decide), b85, aI 23 1 (by decide) (by decide)]
      exact g1
    · show F 23 3 = E 85 74
      rw [f23 3, o 74 (by decide), b85, aI 23 3 (by decide) (by decide)]
      exact g3
    · refine r_note_congr (fun i hi => ?_) (fun i hi => ?_) (gl j hj)
      · show F 27 _ = _
        rw [f27, aI 27 _ (by decide) (by decide)]
      · show E 85 _ = _
        rw [o _ (by omega), b85]
theorem become_1 {t : Nat} {I : e_I} {L : e_L} {V : Nat} (h : Rl t I L) (hx0 : I 83 6 ≠ 0) (ht : t < 600) (hV1 : 2 ≤ V) (hV : V ≤ 3) (hb : tB (I 83 6) (nI 1) (nI V) = 0) : ∃ r I1 I2, f_X7_become (nI 1) (nI V) I = some (r, I1) ∧ f_X8_become (nI 1) (nI V) I1 = some (r, I2) ∧ Rl (t + 1) I2 L := by
  have hx := Rl_hx h
  obtain ⟨c, s, d, f, sl, ti, CH, O, b, fc, st, n, w, gN, gC, gM, g2, gT, gf⟩ := Rl_nums h hx0 ht
  have c9 := gN.1.1.2
  have rv := gN.1.2.1
  have rv' : RV s V f := ⟨rv.1, ⟨hV1, hV⟩, rv.2.2⟩
  have gN' : GN c s V f sl ti CH O b st n w := ⟨⟨gN.1.1, rv', gN.1.2.2.1, gN.1.2.2.2.1, gN.1.2.2.2.2⟩, gN.2⟩
  refine act_go (o7 := f_X7_become (nI 1) (nI V) I) (f8 := f_X8_become (nI 1) (nI V)) h hx0 ht (fun (I_5 : e_I) =>
    e_b1 (f_X0_ruled 23 (nI 1) I_5) (fun (r_6 : Int32) =>
    e_b1 (f_X0_putRule 23 (nI 1) (nI V) I_5) (fun (I_7 : e_I) =>
    e_b1 (f_X7_fitMoves I_7) (fun (I_8 : e_I) =>
    some (r_6, I_8))))) (fun (I_8 : e_I) =>
    e_as (e_ix ((1 : Int32) + nI 1) 396 = true) (
    e_let (I_8 85 ((1 : Int32) + nI 1).toNatClampNeg) (fun (x_10 : Int32) =>
    e_as (e_ix ((1 : Int32) + nI 1) 396 = true) (
    e_let (e_ui I_8 85 ((1 : Int32) + nI 1).toNatClampNeg (nI V)) (fun (I_12 : e_I) =>
    some (x_10, I_12)))))) ?_ ?_ gN gC gM g2 gT gf (fc' := fc) gN' (by omega) (nI d) ?_
  · unfold f_X7_become
    rw [t_become7 hx, r_b1, hb, r_refused, r_b2, if_pos (by rfl)]
  · intro J hJ _
    obtain ⟨w, e, ew⟩ := become8 (J := J) (x := nI 1) (v := nI V)
    rw [hJ, hb] at ew
    rw [e, ew, r_isRefused, r_b2, if_pos (by rfl)]
  · intro A aC aT aI
    obtain ⟨v, k4, k5, k2, k6, k7⟩ := aC
    refine wp_e1 (C_ruledAt (g := 23) (x := 1) (by decide)) (wp_e1 (C_putRule (g := 23) (x := 1) (by decide)) ?_)
    rw [show A (23 + 2) 1 = nI d from v.2.1.2.1]
    generalize hD : e_ui A (23 + 2) 1 (nI V) = D
    have d0 : ∀ a i, a ≠ 25 → D a i = A a i := fun a i z => by rw [← hD, ui_a z]
    have d25 : ∀ i, i ≠ 1 → D 25 i = A 25 i := fun i z => by rw [← hD, ui_i z]
    have vD : CV D 23 c s V f sl ti CH O := ⟨(d0 23 0 (by decide)).trans v.1, ⟨((d25 0 (by decide)).trans v.2.1.1), (by rw [← hD]; exact ui_s), ((d25 2 (by decide)).trans v.2.1.2.2.1), ((d25 3 (by decide)).trans v.2.1.2.2.2.1), ((d25 4 (by decide)).trans v.2.1.2.2.2.2)⟩, fun x1 hx1 x2 hx2 => (d0 24 _ (by decide)).trans (v.2.2.1 x1 hx1 x2 hx2), fun x1 hx1 => ⟨(d0 26 _ (by decide)).trans (v.2.2.2 x1 hx1).1, (v.2.2.2 x1 hx1).2⟩⟩
    refine wp_c1 (C_fitM vD rv') (fun F hF => wp_some ?_)
    obtain ⟨f0, fT⟩ := hF
    have fD : ∀ a i, a ≠ 12 → a ≠ 13 → a ≠ 14 → F a i = D a i := fun a i x y z => f0 a i (fun q => by rcases q with q | q | q; exact x q; exact y q; exact z q)
    have vF : CV F 23 c s V f sl ti CH O := CV_fr (fun i => fD 23 i (by decide) (by decide) (by decide)) (fun i => fD 24 i (by decide) (by decide) (by decide)) (fun i => fD 25 i (by decide) (by decide) (by decide)) (fun i => fD 26 i (by decide) (by decide) (by decide)) vD
    have f23 : ∀ i, F 23 i = A 23 i := fun i => (fD 23 i (by decide) (by decide) (by decide)).trans (d0 23 i (by decide))
    have f27 : ∀ i, F 27 i = A 27 i := fun i => (fD 27 i (by decide) (by decide) (by decide)).trans (d0 27 i (by decide))
    refine ⟨rfl, fun a i z z1 z2 z3 => (fD a i z1 z2 z3).trans (d0 a i (by omega)), ⟨vF, (f23 4).trans k4, (f23 5).trans k5, (f23 2).trans k2, (f23 6).trans k6, (f23 7).trans k7⟩, fT, fun B bM b85 => ?_⟩
    obtain ⟨mv, mo, m72, m73, m70, m71, m75⟩ := bM
    have ix : (1 : Int32) + nI 1 = nI (1 + 1) := by rw [n1, nI_add]
    have bX : B 85 (1 + 1) = nI d := mv.2.1.2.1
    rw [ix]
    refine wp_as (nI_ix (by decide) (by decide)) (wp_let (wp_as (nI_ix (by decide) (by decide)) (wp_let (wp_some ?_))))
    rw [nI_clamp (n := 1 + 1) (by decide), bX]
    generalize hE : e_ui B 85 (1 + 1) (nI V) = E
    have e0 : ∀ a i, a ≠ 85 → E a i = B a i := fun a i z => by rw [← hE, ui_a z]
    have eX : E 85 (1 + 1) = nI V := by rw [← hE]; exact ui_s
    have o : ∀ i, i ≠ 1 + 1 → E 85 i = B 85 i := fun i z => by rw [← hE, ui_i z]
    refine ⟨rfl, e0, ⟨⟨(o 0 (by decide)).trans mv.1, ⟨((o 1 (by decide)).trans mv.2.1.1), eX, ((o 3 (by decide)).trans mv.2.1.2.2)⟩, ((o 4 (by decide)).trans mv.2.2.1), ((o 5 (by decide)).trans mv.2.2.2.1), fun x1 hx1 x2 hx2 => (o _ (by omega)).trans (mv.2.2.2.2 x1 hx1 x2 hx2)⟩, fun i hi => (o _ (by omega)).trans (mo i hi), (o 72 (by decide)).trans m72, (o 73 (by decide)).trans m73, (o 70 (by decide)).trans m70, (o 71 (by decide)).trans m71, (o 75 (by decide)).trans m75⟩, ?_, o 0 (by decide)⟩
    obtain ⟨g1, g3, gl⟩ := g2
    refine ⟨?_, ?_, fun j hj => ?_⟩
    · show F 23 1 = E 85 69
      rw [f23 1, o 69 (by decide), b85, aI 23 1 (by decide) (by decide)]
      exact g1
    · show F 23 3 = E 85 74
      rw [f23 3, o 74 (by decide), b85, aI 23 3 (by decide) (by decide)]
      exact g3
    · refine r_note_congr (fun i hi => ?_) (fun i hi => ?_) (gl j hj)
      · show F 27 _ = _
        rw [f27, aI 27 _ (by decide) (by decide)]
      · show E 85 _ = _
        rw [o _ (by omega), b85]
theorem become_2 {t : Nat} {I : e_I} {L : e_L} {V : Nat} (h : Rl t I L) (hx0 : I 83 6 ≠ 0) (ht : t < 600) (hV1 : 0 ≤ V) (hV : V ≤ 1) (hb : tB (I 83 6) (nI 2) (nI V) = 0) : ∃ r I1 I2, f_X7_become (nI 2) (nI V) I = some (r, I1) ∧ f_X8_become (nI 2) (nI V) I1 = some (r, I2) ∧ Rl (t + 1) I2 L := by
  have hx := Rl_hx h
  obtain ⟨c, s, d, f, sl, ti, CH, O, b, fc, st, n, w, gN, gC, gM, g2, gT, gf⟩ := Rl_nums h hx0 ht
  have c9 := gN.1.1.2
  have rv := gN.1.2.1
  have rv' : RV s d V := ⟨rv.1, rv.2.1, hV⟩
  have gN' : GN c s d V sl ti CH O b st n w := ⟨⟨gN.1.1, rv', gN.1.2.2.1, gN.1.2.2.2.1, gN.1.2.2.2.2⟩, gN.2⟩
  refine act_go (o7 := f_X7_become (nI 2) (nI V) I) (f8 := f_X8_become (nI 2) (nI V)) h hx0 ht (fun (I_5 : e_I) =>
    e_b1 (f_X0_ruled 23 (nI 2) I_5) (fun (r_6 : Int32) =>
    e_b1 (f_X0_putRule 23 (nI 2) (nI V) I_5) (fun (I_7 : e_I) =>
    e_b1 (f_X7_fitMoves I_7) (fun (I_8 : e_I) =>
    some (r_6, I_8))))) (fun (I_8 : e_I) =>
    e_as (e_ix ((1 : Int32) + nI 2) 396 = true) (
    e_let (I_8 85 ((1 : Int32) + nI 2).toNatClampNeg) (fun (x_10 : Int32) =>
    e_as (e_ix ((1 : Int32) + nI 2) 396 = true) (
    e_let (e_ui I_8 85 ((1 : Int32) + nI 2).toNatClampNeg (nI V)) (fun (I_12 : e_I) =>
    some (x_10, I_12)))))) ?_ ?_ gN gC gM g2 gT gf (fc' := fc) gN' (by omega) (nI f) ?_
  · unfold f_X7_become
    rw [t_become7 hx, r_b1, hb, r_refused, r_b2, if_pos (by rfl)]
  · intro J hJ _
    obtain ⟨w, e, ew⟩ := become8 (J := J) (x := nI 2) (v := nI V)
    rw [hJ, hb] at ew
    rw [e, ew, r_isRefused, r_b2, if_pos (by rfl)]
  · intro A aC aT aI
    obtain ⟨v, k4, k5, k2, k6, k7⟩ := aC
    refine wp_e1 (C_ruledAt (g := 23) (x := 2) (by decide)) (wp_e1 (C_putRule (g := 23) (x := 2) (by decide)) ?_)
    rw [show A (23 + 2) 2 = nI f from v.2.1.2.2.1]
    generalize hD : e_ui A (23 + 2) 2 (nI V) = D
    have d0 : ∀ a i, a ≠ 25 → D a i = A a i := fun a i z => by rw [← hD, ui_a z]
    have d25 : ∀ i, i ≠ 2 → D 25 i = A 25 i := fun i z => by rw [← hD, ui_i z]
    have vD : CV D 23 c s d V sl ti CH O := ⟨(d0 23 0 (by decide)).trans v.1, ⟨((d25 0 (by decide)).trans v.2.1.1), ((d25 1 (by decide)).trans v.2.1.2.1), (by rw [← hD]; exact ui_s), ((d25 3 (by decide)).trans v.2.1.2.2.2.1), ((d25 4 (by decide)).trans v.2.1.2.2.2.2)⟩, fun x1 hx1 x2 hx2 => (d0 24 _ (by decide)).trans (v.2.2.1 x1 hx1 x2 hx2), fun x1 hx1 => ⟨(d0 26 _ (by decide)).trans (v.2.2.2 x1 hx1).1, (v.2.2.2 x1 hx1).2⟩⟩
    refine wp_c1 (C_fitM vD rv') (fun F hF => wp_some ?_)
    obtain ⟨f0, fT⟩ := hF
    have fD : ∀ a i, a ≠ 12 → a ≠ 13 → a ≠ 14 → F a i = D a i := fun a i x y z => f0 a i (fun q => by rcases q with q | q | q; exact x q; exact y q; exact z q)
    have vF : CV F 23 c s d V sl ti CH O := CV_fr (fun i => fD 23 i (by decide) (by decide) (by decide)) (fun i => fD 24 i (by decide) (by decide) (by decide)) (fun i => fD 25 i (by decide) (by decide) (by decide)) (fun i => fD 26 i (by decide) (by decide) (by decide)) vD
    have f23 : ∀ i, F 23 i = A 23 i := fun i => (fD 23 i (by decide) (by decide) (by decide)).trans (d0 23 i (by decide))
    have f27 : ∀ i, F 27 i = A 27 i := fun i => (fD 27 i (by decide) (by decide) (by decide)).trans (d0 27 i (by decide))
    refine ⟨rfl, fun a i z z1 z2 z3 => (fD a i z1 z2 z3).trans (d0 a i (by omega)), ⟨vF, (f23 4).trans k4, (f23 5).trans k5, (f23 2).trans k2, (f23 6).trans k6, (f23 7).trans k7⟩, fT, fun B bM b85 => ?_⟩
    obtain ⟨mv, mo, m72, m73, m70, m71, m75⟩ := bM
    have ix : (1 : Int32) + nI 2 = nI (1 + 2) := by rw [n1, nI_add]
    have bX : B 85 (1 + 2) = nI f := mv.2.1.2.2
    rw [ix]
    refine wp_as (nI_ix (by decide) (by decide)) (wp_let (wp_as (nI_ix (by decide) (by decide)) (wp_let (wp_some ?_))))
    rw [nI_clamp (n := 1 + 2) (by decide), bX]
    generalize hE : e_ui B 85 (1 + 2) (nI V) = E
    have e0 : ∀ a i, a ≠ 85 → E a i = B a i := fun a i z => by rw [← hE, ui_a z]
    have eX : E 85 (1 + 2) = nI V := by rw [← hE]; exact ui_s
    have o : ∀ i, i ≠ 1 + 2 → E 85 i = B 85 i := fun i z => by rw [← hE, ui_i z]
    refine ⟨rfl, e0, ⟨⟨(o 0 (by decide)).trans mv.1, ⟨((o 1 (by decide)).trans mv.2.1.1), ((o 2 (by decide)).trans mv.2.1.2.1), eX⟩, ((o 4 (by decide)).trans mv.2.2.1), ((o 5 (by decide)).trans mv.2.2.2.1), fun x1 hx1 x2 hx2 => (o _ (by omega)).trans (mv.2.2.2.2 x1 hx1 x2 hx2)⟩, fun i hi => (o _ (by omega)).trans (mo i hi), (o 72 (by decide)).trans m72, (o 73 (by decide)).trans m73, (o 70 (by decide)).trans m70, (o 71 (by decide)).trans m71, (o 75 (by decide)).trans m75⟩, ?_, o 0 (by decide)⟩
    obtain ⟨g1, g3, gl⟩ := g2
    refine ⟨?_, ?_, fun j hj => ?_⟩
    · show F 23 1 = E 85 69
      rw [f23 1, o 69 (by decide), b85, aI 23 1 (by decide) (by decide)]
      exact g1
    · show F 23 3 = E 85 74
      rw [f23 3, o 74 (by decide), b85, aI 23 3 (by decide) (by decide)]
      exact g3
    · refine r_note_congr (fun i hi => ?_) (fun i hi => ?_) (gl j hj)
      · show F 27 _ = _
        rw [f27, aI 27 _ (by decide) (by decide)]
      · show E 85 _ = _
        rw [o _ (by omega), b85]
theorem become_3 {t : Nat} {I : e_I} {L : e_L} {V : Nat} (h : Rl t I L) (hx0 : I 83 6 ≠ 0) (ht : t < 600) (hV1 : 0 ≤ V) (hV : V ≤ 20) (hb : tB (I 83 6) (nI 3) (nI V) = 0) : ∃ r I1 I2, f_X7_become (nI 3) (nI V) I = some (r, I1) ∧ f_X8_become (nI 3) (nI V) I1 = some (r, I2) ∧ Rl (t + 1) I2 L := by
  have hx := Rl_hx h
  obtain ⟨c, s, d, f, sl, ti, CH, O, b, fc, st, n, w, gN, gC, gM, g2, gT, gf⟩ := Rl_nums h hx0 ht
  have c9 := gN.1.1.2
  have rv := gN.1.2.1
  have rv' : RV s d f := rv
  have gN' : GN c s d f V ti CH O b st n w := ⟨⟨gN.1.1, rv', hV, gN.1.2.2.2.1, gN.1.2.2.2.2⟩, gN.2⟩
  refine act_go (o7 := f_X7_become (nI 3) (nI V) I) (f8 := f_X8_become (nI 3) (nI V)) h hx0 ht (fun (I_5 : e_I) =>
    e_b1 (f_X0_ruled 23 (nI 3) I_5) (fun (r_6 : Int32) =>
    e_b1 (f_X0_putRule 23 (nI 3) (nI V) I_5) (fun (I_7 : e_I) =>
    e_b1 (f_X7_fitMoves I_7) (fun (I_8 : e_I) =>
    some (r_6, I_8))))) (fun (I_8 : e_I) =>
    e_as (e_ix ((1 : Int32) + nI 3) 396 = true) (
    e_let (I_8 85 ((1 : Int32) + nI 3).toNatClampNeg) (fun (x_10 : Int32) =>
    e_as (e_ix ((1 : Int32) + nI 3) 396 = true) (
    e_let (e_ui I_8 85 ((1 : Int32) + nI 3).toNatClampNeg (nI V)) (fun (I_12 : e_I) =>
    some (x_10, I_12)))))) ?_ ?_ gN gC gM g2 gT gf (fc' := fc) gN' (by omega) (nI sl) ?_
  · unfold f_X7_become
    rw [t_become7 hx, r_b1, hb, r_refused, r_b2, if_pos (by rfl)]
  · intro J hJ _
    obtain ⟨w, e, ew⟩ := become8 (J := J) (x := nI 3) (v := nI V)
    rw [hJ, hb] at ew
    rw [e, ew, r_isRefused, r_b2, if_pos (by rfl)]
  · intro A aC aT aI
    obtain ⟨v, k4, k5, k2, k6, k7⟩ := aC
    refine wp_e1 (C_ruledAt (g := 23) (x := 3) (by decide)) (wp_e1 (C_putRule (g := 23) (x := 3) (by decide)) ?_)
    rw [show A (23 + 2) 3 = nI sl from v.2.1.2.2.2.1]
    generalize hD : e_ui A (23 + 2) 3 (nI V) = D
    have d0 : ∀ a i, a ≠ 25 → D a i = A a i := fun a i z => by rw [← hD, ui_a z]
    have d25 : ∀ i, i ≠ 3 → D 25 i = A 25 i := fun i z => by rw [← hD, ui_i z]
    have vD : CV D 23 c s d f V ti CH O := ⟨(d0 23 0 (by decide)).trans v.1, ⟨((d25 0 (by decide)).trans v.2.1.1), ((d25 1 (by decide)).trans v.2.1.2.1), ((d25 2 (by decide)).trans v.2.1.2.2.1), (by rw [← hD]; exact ui_s), ((d25 4 (by decide)).trans v.2.1.2.2.2.2)⟩, fun x1 hx1 x2 hx2 => (d0 24 _ (by decide)).trans (v.2.2.1 x1 hx1 x2 hx2), fun x1 hx1 => ⟨(d0 26 _ (by decide)).trans (v.2.2.2 x1 hx1).1, (v.2.2.2 x1 hx1).2⟩⟩
    refine wp_c1 (C_fitM vD rv') (fun F hF => wp_some ?_)
    obtain ⟨f0, fT⟩ := hF
    have fD : ∀ a i, a ≠ 12 → a ≠ 13 → a ≠ 14 → F a i = D a i := fun a i x y z => f0 a i (fun q => by rcases q with q | q | q; exact x q; exact y q; exact z q)
    have vF : CV F 23 c s d f V ti CH O := CV_fr (fun i => fD 23 i (by decide) (by decide) (by decide)) (fun i => fD 24 i (by decide) (by decide) (by decide)) (fun i => fD 25 i (by decide) (by decide) (by decide)) (fun i => fD 26 i (by decide) (by decide) (by decide)) vD
    have f23 : ∀ i, F 23 i = A 23 i := fun i => (fD 23 i (by decide) (by decide) (by decide)).trans (d0 23 i (by decide))
    have f27 : ∀ i, F 27 i = A 27 i := fun i => (fD 27 i (by decide) (by decide) (by decide)).trans (d0 27 i (by decide))
    refine ⟨rfl, fun a i z z1 z2 z3 => (fD a i z1 z2 z3).trans (d0 a i (by omega)), ⟨vF, (f23 4).trans k4, (f23 5).trans k5, (f23 2).trans k2, (f23 6).trans k6, (f23 7).trans k7⟩, fT, fun B bM b85 => ?_⟩
    obtain ⟨mv, mo, m72, m73, m70, m71, m75⟩ := bM
    have ix : (1 : Int32) + nI 3 = nI (1 + 3) := by rw [n1, nI_add]
    have bX : B 85 (1 + 3) = nI sl := mv.2.2.1
    rw [ix]
    refine wp_as (nI_ix (by decide) (by decide)) (wp_let (wp_as (nI_ix (by decide) (by decide)) (wp_let (wp_some ?_))))
    rw [nI_clamp (n := 1 + 3) (by decide), bX]
    generalize hE : e_ui B 85 (1 + 3) (nI V) = E
    have e0 : ∀ a i, a ≠ 85 → E a i = B a i := fun a i z => by rw [← hE, ui_a z]
    have eX : E 85 (1 + 3) = nI V := by rw [← hE]; exact ui_s
    have o : ∀ i, i ≠ 1 + 3 → E 85 i = B 85 i := fun i z => by rw [← hE, ui_i z]
    refine ⟨rfl, e0, ⟨⟨(o 0 (by decide)).trans mv.1, ⟨((o 1 (by decide)).trans mv.2.1.1), ((o 2 (by decide)).trans mv.2.1.2.1), ((o 3 (by decide)).trans mv.2.1.2.2)⟩, eX, ((o 5 (by decide)).trans mv.2.2.2.1), fun x1 hx1 x2 hx2 => (o _ (by omega)).trans (mv.2.2.2.2 x1 hx1 x2 hx2)⟩, fun i hi => (o _ (by omega)).trans (mo i hi), (o 72 (by decide)).trans m72, (o 73 (by decide)).trans m73, (o 70 (by decide)).trans m70, (o 71 (by decide)).trans m71, (o 75 (by decide)).trans m75⟩, ?_, o 0 (by decide)⟩
    obtain ⟨g1, g3, gl⟩ := g2
    refine ⟨?_, ?_, fun j hj => ?_⟩
    · show F 23 1 = E 85 69
      rw [f23 1, o 69 (by decide), b85, aI 23 1 (by decide) (by decide)]
      exact g1
    · show F 23 3 = E 85 74
      rw [f23 3, o 74 (by decide), b85, aI 23 3 (by decide) (by decide)]
      exact g3
    · refine r_note_congr (fun i hi => ?_) (fun i hi => ?_) (gl j hj)
      · show F 27 _ = _
        rw [f27, aI 27 _ (by decide) (by decide)]
      · show E 85 _ = _
        rw [o _ (by omega), b85]
theorem become_4 {t : Nat} {I : e_I} {L : e_L} {V : Nat} (h : Rl t I L) (hx0 : I 83 6 ≠ 0) (ht : t < 600) (hV1 : 1 ≤ V) (hV : V ≤ 99) (hb : tB (I 83 6) (nI 4) (nI V) = 0) : ∃ r I1 I2, f_X7_become (nI 4) (nI V) I = some (r, I1) ∧ f_X8_become (nI 4) (nI V) I1 = some (r, I2) ∧ Rl (t + 1) I2 L := by
  have hx := Rl_hx h
  obtain ⟨c, s, d, f, sl, ti, CH, O, b, fc, st, n, w, gN, gC, gM, g2, gT, gf⟩ := Rl_nums h hx0 ht
  have c9 := gN.1.1.2
  have rv := gN.1.2.1
  have rv' : RV s d f := rv
  have gN' : GN c s d f sl V CH O b st n w := ⟨⟨gN.1.1, rv', gN.1.2.2.1, ⟨hV1, hV⟩, gN.1.2.2.2.2⟩, gN.2⟩
  refine act_go (o7 := f_X7_become (nI 4) (nI V) I) (f8 := f_X8_become (nI 4) (nI V)) h hx0 ht (fun (I_5 : e_I) =>
    e_b1 (f_X0_ruled 23 (nI 4) I_5) (fun (r_6 : Int32) =>
    e_b1 (f_X0_putRule 23 (nI 4) (nI V) I_5) (fun (I_7 : e_I) =>
    e_b1 (f_X7_fitMoves I_7) (fun (I_8 : e_I) =>
    some (r_6, I_8))))) (fun (I_8 : e_I) =>
    e_as (e_ix ((1 : Int32) + nI 4) 396 = true) (
    e_let (I_8 85 ((1 : Int32) + nI 4).toNatClampNeg) (fun (x_10 : Int32) =>
    e_as (e_ix ((1 : Int32) + nI 4) 396 = true) (
    e_let (e_ui I_8 85 ((1 : Int32) + nI 4).toNatClampNeg (nI V)) (fun (I_12 : e_I) =>
    some (x_10, I_12)))))) ?_ ?_ gN gC gM g2 gT gf (fc' := fc) gN' (by omega) (nI ti) ?_
  · unfold f_X7_become
    rw [t_become7 hx, r_b1, hb, r_refused, r_b2, if_pos (by rfl)]
  · intro J hJ _
    obtain ⟨w, e, ew⟩ := become8 (J := J) (x := nI 4) (v := nI V)
    rw [hJ, hb] at ew
    rw [e, ew, r_isRefused, r_b2, if_pos (by rfl)]
  · intro A aC aT aI
    obtain ⟨v, k4, k5, k2, k6, k7⟩ := aC
    refine wp_e1 (C_ruledAt (g := 23) (x := 4) (by decide)) (wp_e1 (C_putRule (g := 23) (x := 4) (by decide)) ?_)
    rw [show A (23 + 2) 4 = nI ti from v.2.1.2.2.2.2]
    generalize hD : e_ui A (23 + 2) 4 (nI V) = D
    have d0 : ∀ a i, a ≠ 25 → D a i = A a i := fun a i z => by rw [← hD, ui_a z]
    have d25 : ∀ i, i ≠ 4 → D 25 i = A 25 i := fun i z => by rw [← hD, ui_i z]
    have vD : CV D 23 c s d f sl V CH O := ⟨(d0 23 0 (by decide)).trans v.1, ⟨((d25 0 (by decide)).trans v.2.1.1), ((d25 1 (by decide)).trans v.2.1.2.1), ((d25 2 (by decide)).trans v.2.1.2.2.1), ((d25 3 (by decide)).trans v.2.1.2.2.2.1), (by rw [← hD]; exact ui_s)⟩, fun x1 hx1 x2 hx2 => (d0 24 _ (by decide)).trans (v.2.2.1 x1 hx1 x2 hx2), fun x1 hx1 => ⟨(d0 26 _ (by decide)).trans (v.2.2.2 x1 hx1).1, (v.2.2.2 x1 hx1).2⟩⟩
    refine wp_c1 (C_fitM vD rv') (fun F hF => wp_some ?_)
    obtain ⟨f0, fT⟩ := hF
    have fD : ∀ a i, a ≠ 12 → a ≠ 13 → a ≠ 14 → F a i = D a i := fun a i x y z => f0 a i (fun q => by rcases q with q | q | q; exact x q; exact y q; exact z q)
    have vF : CV F 23 c s d f sl V CH O := CV_fr (fun i => fD 23 i (by decide) (by decide) (by decide)) (fun i => fD 24 i (by decide) (by decide) (by decide)) (fun i => fD 25 i (by decide) (by decide) (by decide)) (fun i => fD 26 i (by decide) (by decide) (by decide)) vD
    have f23 : ∀ i, F 23 i = A 23 i := fun i => (fD 23 i (by decide) (by decide) (by decide)).trans (d0 23 i (by decide))
    have f27 : ∀ i, F 27 i = A 27 i := fun i => (fD 27 i (by decide) (by decide) (by decide)).trans (d0 27 i (by decide))
    refine ⟨rfl, fun a i z z1 z2 z3 => (fD a i z1 z2 z3).trans (d0 a i (by omega)), ⟨vF, (f23 4).trans k4, (f23 5).trans k5, (f23 2).trans k2, (f23 6).trans k6, (f23 7).trans k7⟩, fT, fun B bM b85 => ?_⟩
    obtain ⟨mv, mo, m72, m73, m70, m71, m75⟩ := bM
    have ix : (1 : Int32) + nI 4 = nI (1 + 4) := by rw [n1, nI_add]
    have bX : B 85 (1 + 4) = nI ti := mv.2.2.2.1
    rw [ix]
    refine wp_as (nI_ix (by decide) (by decide)) (wp_let (wp_as (nI_ix (by decide) (by decide)) (wp_let (wp_some ?_))))
    rw [nI_clamp (n := 1 + 4) (by decide), bX]
    generalize hE : e_ui B 85 (1 + 4) (nI V) = E
    have e0 : ∀ a i, a ≠ 85 → E a i = B a i := fun a i z => by rw [← hE, ui_a z]
    have eX : E 85 (1 + 4) = nI V := by rw [← hE]; exact ui_s
    have o : ∀ i, i ≠ 1 + 4 → E 85 i = B 85 i := fun i z => by rw [← hE, ui_i z]
    refine ⟨rfl, e0, ⟨⟨(o 0 (by decide)).trans mv.1, ⟨((o 1 (by decide)).trans mv.2.1.1), ((o 2 (by decide)).trans mv.2.1.2.1), ((o 3 (by decide)).trans mv.2.1.2.2)⟩, ((o 4 (by decide)).trans mv.2.2.1), eX, fun x1 hx1 x2 hx2 => (o _ (by omega)).trans (mv.2.2.2.2 x1 hx1 x2 hx2)⟩, fun i hi => (o _ (by omega)).trans (mo i hi), (o 72 (by decide)).trans m72, (o 73 (by decide)).trans m73, (o 70 (by decide)).trans m70, (o 71 (by decide)).trans m71, (o 75 (by decide)).trans m75⟩, ?_, o 0 (by decide)⟩
    obtain ⟨g1, g3, gl⟩ := g2
    refine ⟨?_, ?_, fun j hj => ?_⟩
    · show F 23 1 = E 85 69
      rw [f23 1, o 69 (by decide), b85, aI 23 1 (by decide) (by decide)]
      exact g1
    · show F 23 3 = E 85 74
      rw [f23 3, o 74 (by decide), b85, aI 23 3 (by decide) (by decide)]
      exact g3
    · refine r_note_congr (fun i hi => ?_) (fun i hi => ?_) (gl j hj)
      · show F 27 _ = _
        rw [f27, aI 27 _ (by decide) (by decide)]
      · show E 85 _ = _
        rw [o _ (by omega), b85]
theorem T_become (t : Nat) (ht : t < 600) : ST_become (Rl t) (Rl (t + 1)) := by
  intro x v I L h
  have hx := Rl_hx h
  by_cases hb : tB (I 83 6) x v = 0
  · have hb2 := hb
    unfold tB at hb
    by_cases h1 : I 83 6 = 0
    · rw [if_pos h1] at hb
      exact absurd hb (by decide)
    · rw [if_neg h1] at hb
      by_cases h2 : 0 ≤ x ∧ x ≤ 4
      · rw [if_pos h2] at hb
        by_cases h3 : (x = 0 ∧ (1 ≤ v ∧ v ≤ 2)) ∨ (x = 1 ∧ (2 ≤ v ∧ v ≤ 3)) ∨ (x = 2 ∧ (0 ≤ v ∧ v ≤ 1)) ∨ (x = 3 ∧ (0 ≤ v ∧ v ≤ 20)) ∨ (x = 4 ∧ (1 ≤ v ∧ v ≤ 99))
        · rcases h3 with ⟨rfl, h3⟩ | ⟨rfl, h3⟩ | ⟨rfl, h3⟩ | ⟨rfl, h3⟩ | ⟨rfl, h3⟩
          · obtain ⟨V, hV1, hV, rfl⟩ := nI_btw (m := 1) (n := 2) rfl rfl h3.1 h3.2
            exact become_0 h h1 ht hV1 hV hb2
          · obtain ⟨V, hV1, hV, rfl⟩ := nI_btw (m := 2) (n := 3) rfl rfl h3.1 h3.2
            exact become_1 h h1 ht hV1 hV hb2
          · obtain ⟨V, hV1, hV, rfl⟩ := nI_btw (m := 0) (n := 1) rfl rfl h3.1 h3.2
            exact become_2 h h1 ht hV1 hV hb2
          · obtain ⟨V, hV1, hV, rfl⟩ := nI_btw (m := 0) (n := 20) rfl rfl h3.1 h3.2
            exact become_3 h h1 ht hV1 hV hb2
          · obtain ⟨V, hV1, hV, rfl⟩ := nI_btw (m := 1) (n := 99) rfl rfl h3.1 h3.2
            exact become_4 h h1 ht hV1 hV hb2
        · rw [if_neg h3] at hb
          exact absurd hb (by decide)
      · rw [if_neg h2] at hb
        exact absurd hb (by decide)
  · refine bad_1 (v := tB (I 83 6) x v) h tB_4 ?_ ?_
    · unfold f_X7_become
      rw [t_become7 hx, r_b1, r_refused, r_b2, r_b_n hb]
      rfl
    · obtain ⟨w, e, ew⟩ := become8 (J := r_R7 I (tB (I 83 6) x v)) (x := x) (v := v)
      have ew : w = tB (I 83 6) x v := ew
      rw [e, ew, r_isRefused, r_b2, r_b_n hb]
      rfl
