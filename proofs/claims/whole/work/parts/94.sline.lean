-- TEXT: a line
theorem tk_le {N p : Nat} {D : Nat → Nat} : tk N D p ≤ 4 := by
  unfold tk
  split
  · split
    · split <;> omega
    · split
      · split <;> omega
      · split <;> omega
  · omega
theorem S_bat {N p cnt : Nat} {D : Nat → Nat} {I J : e_I} (k : ST0 N D I J) (sh : SH cnt I J) (hp : p ≤ N) (ck : CK N D p I) (ht : TK N D p J) : wp (f_X6_readLine_23 5 I) (fun x => wp (e_b2 (f_X8_readBatter J) (fun (r_13 : Int32) (I_14 : e_I) => e_as (r_13 = 0 ∨ r_13 = 1) (some (r_13, I_14)))) (fun y => LN N D (te N D p) I J x.1 x.2 y.1 y.2)) := by
  have te1 := te_le (D := D) hp
  have c9 := sh.1.1
  unfold f_X6_readLine_23 f_X6_readLine_47 f_X6_readLine_48 f_X6_readName f_X8_readBatter
  refine wp_f (fun n => n rfl) ?_
  have t0 : (0 : Int32).toNatClampNeg = 0 := rfl
  rw [t0, sh.1.2.1, sh.1.2.2, let_eq]
  by_cases h9 : cnt = 9
  · have lt : ¬ nI cnt < 9 := nI_nlt (b := 9) (by omega) (by omega)
    have e9 : ¬ nI cnt ≠ 9 := fun n => n (by rw [h9]; rfl)
    rw [if_neg lt, if_neg e9, bl_eq, r_b2, er_eq, r_b2, as_0, r_b2, if_pos rfl, as_0, as_0, r_b2, as_0]
    exact wp_some (wp_some (LN_bad fr_rfl fr_rfl ck.1 ht.1 ⟨by decide, by decide⟩ (F := 4) rfl))
  · have lt : nI cnt < 9 := nI_lt (b := 9) (by omega) (by decide)
    have e9 : nI cnt ≠ 9 := nI_n (b := 9) h9 (by omega) (by decide)
    obtain ⟨I2, e2', g1, g2⟩ := st_C k te1.2 ck.2.1
    obtain ⟨J2, e3, g3, g4⟩ := st_M k te1.2 ht.2.1
    have k2 := ST0_s g1 g3 k
    have s2 := SH_s g1 g3 sh
    have F1 : fr fC I I2 := fr_mono (fun a i z => sS_fC z) g1
    have F2 : fr fM J J2 := fr_mono (fun a i z => gS_fM z) g3
    rw [if_pos lt, if_pos e9, e2', r_b1, e3, r_b1, M_isName k2.1 te1.2 k2.2.2.1 g4, r_b1, g2.2.2.1]
    generalize te N D p = P at te1 g2 g4 ⊢
    have hP := te1.2
    have tk4 := tk_le (N := N) (p := P) (D := D)
    have bad1 : wp (some ((0 : Int32), e_ui I2 1 13 1)) (fun x => wp (some ((0 : Int32), e_ui (e_ui J2 83 17 1) 83 18 (e_ui J2 83 17 1 83 12))) (fun y => LN N D P I J x.1 x.2 y.1 y.2)) := wp_some (wp_some (LN_bad F1 F2 g2.1 g4.1 ⟨by decide, by decide⟩ (F := 1) rfl))
    by_cases h0 : tk N D P = 0
    · have z0 : ¬ nI (tk N D P) ≠ 0 := fun n => n (by rw [h0]; rfl)
      obtain ⟨w1, w2, w3, w4, w5⟩ := tok_word h0
      rw [if_neg z0, g2.2.2.2.1 h0, C_keyOf k2.2.2.2.2.2.1 w5, r_b1]
      by_cases hk : kx (tw N D P) 6 0 = -1
      · have i1 : (if tk N D P = 0 ∧ kx (tw N D P) 6 0 = -1 then (1 : Int32) else 0) = 1 := if_pos ⟨h0, hk⟩
        rw [i1, if_pos hk, if_pos (show (1 : Int32) ≠ 0 by decide), C_isName c9 s2.1.2.1, r_b1]
        have r38 := fun (k78 k66 : e_I → Option (Int32 × e_I)) => M_r38 (C := I2 2) k2.1 k2.2.2.1 hP h0 c9 g4 (fun b hb => (s2.2.2.2 b hb).2.2) (k78 := k78) (k66 := k66) cnt 0 e_FU (by omega) (wp_FU (by omega))
        have r38 : ∀ (k78 k66 : e_I → Option (Int32 × e_I)), f_X8_readBatter_38 (nI cnt) k78 k66 e_FU 0 J2 = if anyN (I2 2) (nI (r_code (tw N D P))) cnt 0 = true then k66 J2 else k78 J2 := r38
        rw [r38]
        by_cases an : anyN (I2 2) (nI (r_code (tw N D P))) cnt 0 = true
        · rw [if_pos an, if_pos an, if_neg (show ¬ (1 : Int32) = 0 by decide), bl_eq, r_b2, er_eq, r_b2, as_0, r_b2, if_pos rfl, as_0, as_0, r_b2, as_0]
          exact wp_some (wp_some (LN_bad F1 F2 g2.1 g4.1 ⟨by decide, by decide⟩ (F := 3) rfl))
        · have ix : e_ix (nI cnt) 9 = true := nI_ix (by omega) (by omega)
          have asx : ∀ {τ : Type} {x : Option τ}, e_as (e_ix (nI cnt) 9 = true) x = x := fun {τ x} => if_pos ix
          rw [if_neg an, if_neg an, if_pos rfl, s2.1.2.1, asx, let_eq, r_b2, if_neg (show ¬ (1 : Int32) = 0 by decide), nI_clamp (n := cnt) (by omega)]
          obtain ⟨K, eK, x1, x2⟩ := M_r80 (N := N) (p := P) (cnt := cnt) (D := D) (k131 := (fun (I_7 : e_I) => e_b1 (f_X8_goesOn I_7) (fun (I_8 : e_I) => f_X8_readBatter_140 (nI cnt) (fun (I_9 : e_I) => e_as (e_ix ((60 : Int32) + nI cnt) 396 = true) (e_let (e_ui I_9 86 ((60 : Int32) + nI cnt).toNatClampNeg (nI cnt)) (fun (I_11 : e_I) => e_let (e_ui I_11 86 0 ((I_11 86 0) + 1)) (fun (I_12 : e_I) => some (1, I_12))))) (fun (I_13 : e_I) => e_b2 (f_X8_errs 2 I_13) (fun (r_14 : Int32) (I_15 : e_I) => e_as (r_14 = 0 ∨ r_14 = 1) (some (r_14, I_15)))) (fun (I_17 : e_I) => some (0, I_17)) e_FU 20 0 I_8))) k2.1 hP (by omega) 6 0 e_FU J2 rfl (wp_FU (by decide)) k2.2.2.1 g4
          have eK : _ = _ := eK
          refine wp_mono (Q := fun x => wp (e_b1 (f_X8_goesOn K) (fun (I_8 : e_I) => f_X8_readBatter_140 (nI cnt) (fun (I_9 : e_I) => e_as (e_ix ((60 : Int32) + nI cnt) 396 = true) (e_let (e_ui I_9 86 ((60 : Int32) + nI cnt).toNatClampNeg (nI cnt)) (fun (I_11 : e_I) => e_let (e_ui I_11 86 0 ((I_11 86 0) + 1)) (fun (I_12 : e_I) => some (1, I_12))))) (fun (I_13 : e_I) => e_b2 (f_X8_errs 2 I_13) (fun (r_14 : Int32) (I_15 : e_I) => e_as (r_14 = 0 ∨ r_14 = 1) (some (r_14, I_15)))) (fun (I_17 : e_I) => some (0, I_17)) e_FU 20 0 I_8)) (fun y => LN N D P I J x.1 x.2 y.1 y.2)) ?_ (fun x hx => ?_)
          · have kI : ST0 N D (e_ui I2 2 cnt (nI (r_code (tw N D P)))) K := ST0_fr (fun i => ui_a (by decide)) (ui_a (by decide)) (fun i => ui_a (by decide)) (ui_a (by decide)) (fun i => x1 84 i (fun z => by cases z.1)) (x1 83 11 (fun z => by cases z.1)) k2
            have sI : SH cnt (e_ui I2 2 cnt (nI (r_code (tw N D P)))) K := by
              obtain ⟨⟨a, b, c⟩, t, ru, bt⟩ := s2
              refine ⟨⟨a, (ui_a (by decide)).trans b, (x1 86 0 (fun z => by cases z.1)).trans c⟩, fun x hx2 => ?_, fun x hx2 => ?_, fun b hb2 => BAT_fr (ui_i (by omega)) (fun x _ => ui_a (by decide)) (fun x _ => x1 86 _ (fun z => by cases z.1)) (x1 86 _ (fun z => by cases z.1)) (fun j _ => x1 88 _ (fun z => by omega)) (bt b hb2)⟩
              · have a1 : (e_ui I2 2 cnt (nI (r_code (tw N D P)))) 7 x = I2 7 x := ui_a (by decide)
                rw [a1, x1 83 16 (fun z => by cases z.1)]
                exact t x hx2
              · obtain ⟨v, v1, v2, v3⟩ := ru x hx2
                exact ⟨v, (ui_a (by decide)).trans v1, (x1 86 _ (fun z => by cases z.1)).trans v2, v3⟩
            have nm : r_name ((e_ui I2 2 cnt (nI (r_code (tw N D P)))) 2) (K 88) cnt := by
              have lt : (tw N D P).length = te N D P - tq N D P := wl_len _
              refine ⟨tw N D P, w5, ui_s, fun j hj => ?_⟩
              rw [x2 j (Nat.zero_le j) hj, lt]
              by_cases q : j < te N D P - tq N D P
              · rw [if_pos q, if_pos q]
                have a := isL_i.mp (w4 j q)
                have b : (tw N D P).getD j 0 = D (tq N D P + j) - 96 := wl_get _ j q
                rw [b]
                congr 1
                omega
              · rw [if_neg q, if_neg q]
            have te2 := te_le (D := D) hP
            have tq2 := tq_le (D := D) hP
            obtain ⟨J4, e4, y1, y2⟩ := st_M kI te2.2 ((x1 83 13 (fun z => by cases z.1)).trans g4.2.1)
            have s60 : (60 : Int32) + nI cnt = nI (60 + cnt) := nI_add 60 cnt
            have ix60 : e_ix (nI (60 + cnt)) 396 = true := nI_ix (by omega) (by omega)
            have asy : ∀ {τ : Type} {x : Option τ}, e_as (e_ix (nI (60 + cnt)) 396 = true) x = x := fun {τ x} => if_pos ix60
            rw [e4, r_b1, s60, nI_clamp (n := 60 + cnt) (by omega)]
            unfold f_X6_readChances
            have IH := S_ch (N := N) (cnt := cnt) (D := D) (by omega) (k85 := fun (I_1 : e_I) => e_let (e_ui I_1 1 4 ((I_1 1 4) + 1)) (fun (I_2 : e_I) => some (1, I_2))) (k22 := fun (I_3 : e_I) => e_b2 (f_X6_blame 1 I_3) (fun (r_4 : Int32) (I_5 : e_I) => e_as (r_4 = 0 ∨ r_4 = 1) (some (r_4, I_5)))) (k55 := fun (I_7 : e_I) => e_b2 (f_X6_blame 2 I_7) (fun (r_8 : Int32) (I_9 : e_I) => e_as (r_8 = 0 ∨ r_8 = 1) (some (r_8, I_9)))) (k229 := fun (I_9 : e_I) => e_as (e_ix (nI (60 + cnt)) 396 = true) (e_let (e_ui I_9 86 (60 + cnt) (nI cnt)) (fun (I_11 : e_I) => e_let (e_ui I_11 86 0 ((I_11 86 0) + 1)) (fun (I_12 : e_I) => some (1, I_12))))) (k179 := fun (I_13 : e_I) => e_b2 (f_X8_errs 2 I_13) (fun (r_14 : Int32) (I_15 : e_I) => e_as (r_14 = 0 ∨ r_14 = 1) (some (r_14, I_15)))) (k204 := fun (I_17 : e_I) => some (0, I_17)) (fun I => rfl) (fun I => as_0) (fun I => as_0) (fun J => asy) (fun J => as_0) (fun J => rfl) 6 0 e_FU e_FU (te N D P) (e_ui I2 2 cnt (nI (r_code (tw N D P)))) J4 (fun _ => 0) rfl (wp_FU (by decide)) (wp_FU (by decide)) (ST0_s fr_rfl y1 kI) (SH_s fr_rfl y1 sI) te2.2 ((ui_a (by decide)).trans g2.2.1) y2 (by
              obtain ⟨w, n1, n2, n3⟩ := nm
              exact ⟨w, n1, n2, fun j hj => (y1 88 _ (fun z => by cases z.1)).trans (n3 j hj)⟩) (fun x hx2 => by omega) (Nat.le_refl 0) (fun z => by omega)
            refine wp_c2 IH (fun r I9 hr => ?_)
            have FI : fr fC I (e_ui I2 2 cnt (nI (r_code (tw N D P)))) := fr_tr F1 (fr_ui (Or.inr (Or.inl rfl)))
            have FJ : fr fM J J4 := fr_tr F2 (fr_tr (fr_mono (fun a i z => Or.inr (Or.inr z.1)) x1) (fr_mono (fun a i z => gS_fM z) y1))
            have hr : wp (f_X8_readBatter_140 (nI cnt) (fun (I_9 : e_I) => e_as (e_ix (nI (60 + cnt)) 396 = true) (e_let (e_ui I_9 86 (60 + cnt) (nI cnt)) (fun (I_11 : e_I) => e_let (e_ui I_11 86 0 ((I_11 86 0) + 1)) (fun (I_12 : e_I) => some (1, I_12))))) (fun (I_13 : e_I) => e_b2 (f_X8_errs 2 I_13) (fun (r_14 : Int32) (I_15 : e_I) => e_as (r_14 = 0 ∨ r_14 = 1) (some (r_14, I_15)))) (fun (I_17 : e_I) => some (0, I_17)) e_FU (20 - nI 0) (nI 0) J4) (fun y => LN N D (te N D P) (e_ui I2 2 cnt (nI (r_code (tw N D P)))) J4 r I9 y.1 y.2) := hr
            have e20 : (20 : Int32) - nI 0 = 20 := by decide
            rw [e20] at hr
            have hr2 := wp_mono hr (fun y hy => LN_fr FI FJ (by omega : P ≤ te N D P) hy)
            have rc : r = 1 ∨ r = 0 := by
              obtain ⟨y, _, hy⟩ := hr
              rcases hy.2.2 with z | z
              · exact Or.inl z.1
              · exact Or.inr z.1
            rcases rc with rfl | rfl
            · rw [if_neg (show ¬ (1 : Int32) = 0 by decide), as_1]
              exact wp_some hr2
            · rw [if_pos rfl, as_0]
              exact wp_some hr2
          · obtain ⟨y, ey, hy⟩ := hx
            have rc : y.1 = 1 ∨ y.1 = 0 := by
              rcases hy.2.2 with z | z
              · exact Or.inl z.2.1
              · exact Or.inr z.2.1
            refine wp_c2 (R := fun z => z = y) ⟨y, eK.trans ey, rfl⟩ (fun r I9 hr => ?_)
            subst hr
            rcases rc with rc | rc
            · have rc : r = 1 := rc
              subst rc
              rw [as_1]
              exact wp_some hy
            · have rc : r = 0 := rc
              subst rc
              rw [as_0]
              exact wp_some hy
      · have i0 : (if tk N D P = 0 ∧ kx (tw N D P) 6 0 = -1 then (1 : Int32) else 0) = 0 := if_neg (fun n => hk n.2)
        rw [i0, if_neg hk, if_neg (show ¬ (0 : Int32) ≠ 0 by decide)]
        unfold f_X6_readName_38
        rw [bl_eq, r_b2, er_eq, r_b2, as_0, r_b2, if_pos rfl, as_0, as_0, r_b2, as_0]
        exact bad1
    · have z0 : nI (tk N D P) ≠ 0 := nI_ne0 (by omega) (by omega)
      have i0 : (if tk N D P = 0 ∧ kx (tw N D P) 6 0 = -1 then (1 : Int32) else 0) = 0 := if_neg (fun n => h0 n.1)
      rw [if_pos z0, i0, if_neg (show ¬ (0 : Int32) ≠ 0 by decide)]
      unfold f_X6_readName_38
      rw [bl_eq, r_b2, er_eq, r_b2, as_0, r_b2, if_pos rfl, as_0, as_0, r_b2, as_0]
      exact bad1
-- TEXT: any line
theorem kw_ne : ∀ i, i < 6 → ∀ j, j < 6 → i ≠ j → kw i ≠ kw j := by decide +kernel
theorem kx_kw : ∀ i, i < 6 → kx (kw i) 6 0 = nI i := by decide +kernel
theorem M_line {N p : Nat} {D : Nat → Nat} {J : e_I} (hN : N ≤ 500) (hp : p ≤ N) (hm : mT J N D) (ht : TK N D p J) : (tk N D p = 0 ∧ tw N D p = kw 5 ∧ f_X8_readLine J = e_b2 (f_X8_readBatter J) (fun (r_13 : Int32) (I_14 : e_I) => e_as (r_13 = 0 ∨ r_13 = 1) (some (r_13, I_14)))) ∨ (∃ i, i < 5 ∧ tk N D p = 0 ∧ tw N D p = kw i ∧ f_X8_readLine J = f_X8_readLine_80 (nI i) J) ∨ ((tk N D p ≠ 0 ∨ ∀ i, i < 6 → tw N D p ≠ kw i) ∧ f_X8_readLine J = f_X8_readLine_80 (-1) J) := by
  have no : ∀ i, i < 6 → ¬ (tk N D p = 0 ∧ tw N D p = kw i) → f_X8_isWord (1000 + i) J = some 0 := fun i hi e => by
    rw [M_isWord hi hN hp hm ht, if_neg e]
  have yes : ∀ i, i < 6 → tk N D p = 0 → tw N D p = kw i → f_X8_isWord (1000 + i) J = some 1 := fun i hi e1' e2' => by
    rw [M_isWord hi hN hp hm ht, if_pos ⟨e1', e2'⟩]
  have oth : ∀ i, i < 6 → tw N D p = kw i → ∀ j, j < 6 → j ≠ i → ¬ (tk N D p = 0 ∧ tw N D p = kw j) := fun i hi e j hj ne n => kw_ne j hj i hi ne (n.2.symm.trans e)
  have n10 : ¬ (1 : Int32) = 0 := by decide
  unfold f_X8_readLine
  by_cases h0 : tk N D p = 0
  · by_cases q5 : tw N D p = kw 5
    · refine Or.inl ⟨h0, q5, ?_⟩
      rw [show f_X8_isWord 1005 J = some 1 from yes 5 (by decide) h0 q5, r_b1, if_neg n10]
    · rw [show f_X8_isWord 1005 J = some 0 from no 5 (by decide) (fun n => q5 n.2), r_b1, if_pos rfl]
      by_cases q0 : tw N D p = kw 0
      · refine Or.inr (Or.inl ⟨0, by decide, h0, q0, ?_⟩)
        rw [show f_X8_isWord 1000 J = some 1 from yes 0 (by decide) h0 q0, r_b1, if_neg n10]
        rfl
      · rw [show f_X8_isWord 1000 J = some 0 from no 0 (by decide) (fun n => q0 n.2), r_b1, if_pos rfl]
        by_cases q1 : tw N D p = kw 1
        · refine Or.inr (Or.inl ⟨1, by decide, h0, q1, ?_⟩)
          rw [show f_X8_isWord 1001 J = some 1 from yes 1 (by decide) h0 q1, r_b1, if_neg n10]
          rfl
        · rw [show f_X8_isWord 1001 J = some 0 from no 1 (by decide) (fun n => q1 n.2), r_b1, if_pos rfl]
          by_cases q2 : tw N D p = kw 2
          · refine Or.inr (Or.inl ⟨2, by decide, h0, q2, ?_⟩)
            rw [show f_X8_isWord 1002 J = some 1 from yes 2 (by decide) h0 q2, r_b1, if_neg n10]
            rfl
          · rw [show f_X8_isWord 1002 J = some 0 from no 2 (by decide) (fun n => q2 n.2), r_b1, if_pos rfl]
            by_cases q3 : tw N D p = kw 3
            · refine Or.inr (Or.inl ⟨3, by decide, h0, q3, ?_⟩)
              rw [show f_X8_isWord 1003 J = some 1 from yes 3 (by decide) h0 q3, r_b1, if_neg n10]
              rfl
            · rw [show f_X8_isWord 1003 J = some 0 from no 3 (by decide) (fun n => q3 n.2), r_b1, if_pos rfl]
              by_cases q4 : tw N D p = kw 4
              · refine Or.inr (Or.inl ⟨4, by decide, h0, q4, ?_⟩)
                rw [show f_X8_isWord 1004 J = some 1 from yes 4 (by decide) h0 q4, r_b1, if_neg n10]
                rfl
              · refine Or.inr (Or.inr ⟨Or.inr (fun i hi => ?_), ?_⟩)
                · have cs : i = 0 ∨ i = 1 ∨ i = 2 ∨ i = 3 ∨ i = 4 ∨ i = 5 := by omega
                  rcases cs with rfl | rfl | rfl | rfl | rfl | rfl
                  · exact q0
                  · exact q1
                  · exact q2
                  · exact q3
                  · exact q4
                  · exact q5
                · rw [show f_X8_isWord 1004 J = some 0 from no 4 (by decide) (fun n => q4 n.2), r_b1, if_pos rfl]
  · refine Or.inr (Or.inr ⟨Or.inl h0, ?_⟩)
    have nn : ∀ i, i < 6 → f_X8_isWord (1000 + i) J = some 0 := fun i hi => no i hi (fun n => h0 n.1)
    rw [show f_X8_isWord 1005 J = some 0 from nn 5 (by decide), r_b1, if_pos rfl, show f_X8_isWord 1000 J = some 0 from nn 0 (by decide), r_b1, if_pos rfl, show f_X8_isWord 1001 J = some 0 from nn 1 (by decide), r_b1, if_pos rfl, show f_X8_isWord 1002 J = some 0 from nn 2 (by decide), r_b1, if_pos rfl, show f_X8_isWord 1003 J = some 0 from nn 3 (by decide), r_b1, if_pos rfl, show f_X8_isWord 1004 J = some 0 from nn 4 (by decide), r_b1, if_pos rfl]
theorem S_line {N p cnt : Nat} {D : Nat → Nat} {I J : e_I} (ps : PS N D p cnt I J) : wp (f_X6_readLine I) (fun x => wp (f_X8_readLine J) (fun y => LN N D p I J x.1 x.2 y.1 y.2)) := by
  obtain ⟨k, sh, hp, h10, ht⟩ := ps
  have te1 := te_le (D := D) hp
  have tq1 := tq_le (D := D) hp
  obtain ⟨I2, e2', g1, g2⟩ := st_C k hp h10
  have k2 := ST0_s g1 fr_rfl k
  have s2 := SH_s g1 fr_rfl sh
  have F1 : fr fC I I2 := fr_mono (fun a i z => sS_fC z) g1
  have tk4 := tk_le (N := N) (p := p) (D := D)
  -- no line begins so
  have bad : wp (f_X6_readLine_23 (-1) I2) (fun x => wp (f_X8_readLine_80 (-1) J) (fun y => LN N D p I J x.1 x.2 y.1 y.2)) := by
    unfold f_X6_readLine_23 f_X6_readLine_66 f_X6_readLine_71 f_X8_readLine_80 f_X8_readLine_99
    rw [if_pos (show (-1 : Int32) ≠ 5 by decide), if_pos (show (-1 : Int32) < 0 by decide), bl_eq, r_b2, as_0, if_neg (show ¬ (-1 : Int32) ≠ -1 from fun n => n rfl), er_eq, r_b2, as_0]
    exact wp_some (wp_some (LN_bad F1 fr_rfl g2.1 ht.1 ⟨by decide, by decide⟩ (F := 1) rfl))
  unfold f_X6_readLine
  rw [e2', r_b1, g2.2.2.1]
  rcases M_line k.1 hp k.2.2.1 ht with ⟨h0, hw, e8⟩ | ⟨i, hi, h0, hw, e8⟩ | ⟨hn, e8⟩
  · have z0 : ¬ nI (tk N D p) ≠ 0 := fun n => n (by rw [h0]; rfl)
    rw [if_neg z0, g2.2.2.2.1 h0, C_keyOf k2.2.2.2.2.2.1 (tok_word h0).2.2.2.2, r_b1, hw, show kx (kw 5) 6 0 = 5 from kx_kw 5 (by decide), e8]
    exact wp_mono (S_bat k2 s2 hp g2 ht) (fun x hx => wp_mono hx (fun y hy => LN_fr F1 fr_rfl (by omega) hy))
  · have z0 : ¬ nI (tk N D p) ≠ 0 := fun n => n (by rw [h0]; rfl)
    rw [if_neg z0, g2.2.2.2.1 h0, C_keyOf k2.2.2.2.2.2.1 (tok_word h0).2.2.2.2, r_b1, hw, kx_kw i (by omega), e8]
    unfold f_X6_readLine_23 f_X6_readLine_71 f_X8_readLine_80 f_X8_readLine_99
    have n5 : nI i ≠ 5 := nI_n (b := 5) (by omega) (by omega) (by decide)
    have n0 : ¬ nI i < 0 := nI_pos (by omega)
    have g5 : ¬ nI i ≥ 5 := c_ge (N := 5) hi (by decide)
    rw [if_pos n5, if_neg n0, if_neg g5, if_pos (nI_m1 (by omega))]
    refine wp_c2 (S_rule hi k2 s2 hp g2 ht) (fun r I3 hr => ?_)
    obtain ⟨y, ey, hy⟩ := hr
    have hy : LN N D (te N D p) I2 J r I3 y.1 y.2 := hy
    have out := LN_fr F1 fr_rfl (by omega : p ≤ te N D p) hy
    have rc : (r = 1 ∧ y.1 = 1) ∨ (r = 0 ∧ y.1 = 0) := by
      rcases hy.2.2 with z | z
      · exact Or.inl ⟨z.1, z.2.1⟩
      · exact Or.inr ⟨z.1, z.2.1⟩
    obtain ⟨s, J3⟩ := y
    rcases rc with ⟨r1, s1⟩ | ⟨r1, s1⟩
    · have s1 : s = 1 := s1
      subst r1
      subst s1
      rw [as_1, ey, r_b2, as_1]
      exact wp_some (wp_some out)
    · have s1 : s = 0 := s1
      subst r1
      subst s1
      rw [as_0, ey, r_b2, as_0]
      exact wp_some (wp_some out)
  · rw [e8]
    by_cases h0 : tk N D p = 0
    · have z0 : ¬ nI (tk N D p) ≠ 0 := fun n => n (by rw [h0]; rfl)
      have kn : kx (tw N D p) 6 0 = -1 := kx_n.mpr (hn.resolve_left (fun n => n h0))
      rw [if_neg z0, g2.2.2.2.1 h0, C_keyOf k2.2.2.2.2.2.1 (tok_word h0).2.2.2.2, r_b1, kn]
      exact bad
    · have z0 : nI (tk N D p) ≠ 0 := nI_ne0 (by omega) (by omega)
      rw [if_pos z0]
      exact bad
-- TEXT: all lines
def OUT (I J : e_I) (r : Int32) (I' : e_I) (s : Int32) (J' : e_I) : Prop := fr fC I I' ∧ fr fM J J' ∧ ((r = 0 ∧ s = 1 ∧ ∃ cnt, 0 < cnt ∧ SH cnt I' J') ∨ (r ≠ 0 ∧ s = 0 ∧ r = J' 83 17 ∧ I' 1 5 = J' 83 18))
theorem OUT_fr {I J I1 J1 I' J' : e_I} {r s : Int32} (h1 : fr fC I I1) (h2 : fr fM J J1) (h : OUT I1 J1 r I' s J') : OUT I J r I' s J' := ⟨fr_tr h1 h.1, fr_tr h2 h.2.1, h.2.2⟩
theorem S_all {N : Nat} {D : Nat → Nat} {k48 k102 k100 : e_I → Option (Int32 × e_I)} (h48 : ∀ I, k48 I = if (I 1 13) ≠ 0 then some (I 1 13, I) else if (I 1 4) ≠ 0 then some (I 1 13, I) else some (5, e_ui I 1 13 5)) (h102 : ∀ J, k102 J = if (J 83 14) = 0 then (if (J 86 0) > 0 then some (1, J) else some (0, e_ui (e_ui J 83 17 5) 83 18 (e_ui J 83 17 5 83 12))) else some (0, e_ui (e_ui J 83 17 1) 83 18 (e_ui J 83 17 1 83 12))) (h100 : ∀ J, k100 J = some (0, J)) : ∀ m p l n n' cnt I J, N + 1 ≤ p + m → m + 1 < n → m < n' → l ≤ p → PS N D p cnt I J → wp (f_X6_read_13 (nI N) k48 n 1 (nI l) I) (fun x => wp (e_b2 (f_X8_readLine J) (fun (r_3 : Int32) (I_4 : e_I) => if r_3 ≠ 0 then (f_X8_readAll_80 k102 k100 n' I_4) else (k100 I_4))) (fun y => OUT I J x.1 x.2 y.1 y.2)) := by
  intro m
  induction m with
  | zero =>
    intro p l n n' cnt I J h0 _ _ _ ps
    have := ps.2.2.1
    omega
  | succ m ih =>
    intro p l n n' cnt I J h0 hn hn' hl ps
    obtain ⟨n, rfl⟩ : ∃ k, n = k + 1 + 1 := ⟨n - 2, by omega⟩
    obtain ⟨n', rfl⟩ : ∃ k, n' = k + 1 := ⟨n' - 1, by omega⟩
    have hN := ps.1.1
    have hp := ps.2.2.1
    have lt : ¬ nI l > nI N := c_gt (by omega) (by omega)
    rw [f_X6_read_13, if_neg (show ¬ (1 : Int32) = 0 by decide), if_neg lt]
    refine wp_c2 (S_line ps) (fun r I2 hr => ?_)
    obtain ⟨y, ey, hy⟩ := hr
    obtain ⟨s, J2⟩ := y
    have hy : LN N D p I J r I2 s J2 := hy
    obtain ⟨F1, F2, hy⟩ := hy
    rw [ey, r_b2]
    rcases hy with ⟨r1, s1, p', cnt', hp', ps'⟩ | ⟨r1, s1, F, f13, f17, f5, Fb⟩
    · subst r1
      subst s1
      rw [if_neg (show ¬ (1 : Int32) = 0 by decide), if_pos (show (1 : Int32) ≠ 0 by decide)]
      obtain ⟨k, sh, hp2, h10, ht⟩ := id ps'
      have te1 := te_le (D := D) hp2
      have tq1 := tq_le (D := D) hp2
      have tk4 := tk_le (N := N) (p := p') (D := D)
      obtain ⟨I3, e3, g1, g2⟩ := st_C k hp2 h10
      have k3 := ST0_s g1 fr_rfl k
      have s3 := SH_s g1 fr_rfl sh
      have F3 : fr fC I I3 := fr_tr F1 (fr_mono (fun a i z => sS_fC z) g1)
      unfold f_X6_goesOn
      rw [e3, r_b1, g2.2.2.1, f_X8_readAll_80, ht.2.2.1]
      by_cases t2 : tk N D p' = 2
      · -- a further line
        have a3 : nI (tk N D p') ≠ 3 := nI_n (b := 3) (by omega) (by omega) (by decide)
        have a2 : nI (tk N D p') = 2 := by rw [t2]; rfl
        have q59 : ¬ nI (mk (tk N D p')) ≠ 59 := fun n => n (mk_59.mpr t2)
        obtain ⟨J3, e4, x1, x2⟩ := st_M k3 te1.2 ht.2.1
        have te3 : tq N D p' < N ∧ te N D p' = tq N D p' + 1 := by
          have t2' := t2
          unfold tk at t2'
          unfold te
          by_cases hq : tq N D p' < N
          · rw [if_pos hq] at t2' ⊢
            refine ⟨hq, ?_⟩
            by_cases la : isL (D (tq N D p')) = true
            · rw [if_pos la] at t2'
              split at t2' <;> omega
            · rw [if_neg la] at t2' ⊢
              by_cases da : isD (D (tq N D p')) = true
              · rw [if_pos da] at t2'
                split at t2' <;> omega
              · rw [if_neg da]
          · rw [if_neg hq] at t2'
            omega
        unfold f_X6_goesOn_30 f_X6_goesOn_35
        rw [if_pos a3, if_pos a2, as_1, r_b2, if_neg (show ¬ (1 : Int32) = 0 by decide), if_neg q59, e4, r_b1]
        unfold f_X6_read_41
        refine wp_let ?_
        rw [nI_1 l]
        have PS' : PS N D (te N D p') cnt' I3 J3 := ⟨ST0_s fr_rfl x1 k3, SH_s fr_rfl x1 s3, te1.2, g2.2.1, x2⟩
        exact wp_mono (ih (te N D p') (l + 1) (n + 1) n' cnt' I3 J3 (by omega) (by omega) (by omega) (by omega) PS') (fun x hx => wp_mono hx (fun y hy => OUT_fr F3 (fr_tr F2 (fr_mono (fun a i z => gS_fM z) x1)) hy))
      · have q59 : nI (mk (tk N D p')) ≠ 59 := fun n => t2 (mk_59.mp n)
        rw [if_pos q59, h102, ht.2.2.1]
        by_cases t3 : tk N D p' = 3
        · have a3 : ¬ nI (tk N D p') ≠ 3 := fun n => n (by rw [t3]; rfl)
          have i13 : I3 1 13 = 0 := k3.2.2.2.2.2.2
          rw [if_neg a3, r_b2, if_pos rfl, if_pos (mk_0.mpr t3), sh.1.2.2]
          unfold f_X6_read_40 f_X6_read_41
          refine wp_let ?_
          show wp (f_X6_read_13 (nI N) k48 (n + 1) 0 (nI l + 1) I3) _
          rw [f_X6_read_13, if_pos rfl, h48, i13, if_neg (fun n => n rfl), s3.1.2.1]
          by_cases c0 : cnt' = 0
          · have z4 : ¬ nI cnt' ≠ 0 := fun n => n (by rw [c0]; rfl)
            have z0 : ¬ nI cnt' > 0 := by
              rw [c0]
              decide
            rw [if_neg z4, if_neg z0]
            refine wp_some (wp_some ⟨fr_tr F3 fr_bl, fr_tr F2 fr_er, Or.inr ⟨(show (5 : Int32) ≠ 0 by decide), rfl, ?_, ?_⟩⟩)
            · exact ((ui_i (by decide)).trans ui_s : (e_ui (e_ui J2 83 17 5) 83 18 (e_ui J2 83 17 5 83 12)) 83 17 = 5).symm
            · show e_ui I3 1 13 5 1 5 = (e_ui (e_ui J2 83 17 5) 83 18 (e_ui J2 83 17 5 83 12)) 83 18
              have a : e_ui I3 1 13 5 1 5 = I3 1 5 := ui_i (by decide)
              have b : (e_ui (e_ui J2 83 17 5) 83 18 (e_ui J2 83 17 5 83 12)) 83 18 = J2 83 12 := ui_s.trans (ui_i (by decide))
              rw [a, b, g2.1, ht.1]
          · have c9 := sh.1.1
            have z4 : nI cnt' ≠ 0 := nI_ne0 (by omega) (by omega)
            have z0 : nI cnt' > 0 := nI_lt (a := 0) (by omega) (by omega)
            rw [if_pos z4, if_pos z0]
            exact wp_some (wp_some ⟨F3, F2, Or.inl ⟨rfl, rfl, cnt', by omega, s3⟩⟩)
        · have a3 : nI (tk N D p') ≠ 3 := nI_n (b := 3) t3 (by omega) (by decide)
          have a2 : ¬ nI (tk N D p') = 2 := nI_n (b := 2) t2 (by omega) (by decide)
          rw [if_pos a3, if_neg a2, bl_eq, r_b2, if_pos rfl, if_neg (fun n => t3 (mk_0.mp n))]
          unfold f_X6_goesOn_35 f_X6_read_40 f_X6_read_41
          rw [as_0, r_b2, if_pos rfl]
          refine wp_let ?_
          show wp (f_X6_read_13 (nI N) k48 (n + 1) 0 (nI l + 1) (e_ui I3 1 13 1)) _
          have u13 : e_ui I3 1 13 1 1 13 = 1 := ui_s
          rw [f_X6_read_13, if_pos rfl, h48, u13, if_pos (by decide)]
          refine wp_some (wp_some ⟨fr_tr F3 fr_bl, fr_tr F2 fr_er, Or.inr ⟨(show (1 : Int32) ≠ 0 by decide), rfl, ?_, ?_⟩⟩)
          · exact ((ui_i (by decide)).trans ui_s : (e_ui (e_ui J2 83 17 1) 83 18 (e_ui J2 83 17 1 83 12)) 83 17 = 1).symm
          · show e_ui I3 1 13 1 1 5 = (e_ui (e_ui J2 83 17 1) 83 18 (e_ui J2 83 17 1 83 12)) 83 18
            have a : e_ui I3 1 13 1 1 5 = I3 1 5 := ui_i (by decide)
            have b : (e_ui (e_ui J2 83 17 1) 83 18 (e_ui J2 83 17 1 83 12)) 83 18 = J2 83 12 := ui_s.trans (ui_i (by decide))
            rw [a, b, g2.1, ht.1]
    · subst r1
      subst s1
      have n0 : nI F ≠ 0 := nI_ne0 (by omega) (by omega)
      rw [if_pos rfl, if_neg (show ¬ (0 : Int32) ≠ 0 from fun n => n rfl), h100]
      unfold f_X6_read_40 f_X6_read_41
      refine wp_let ?_
      show wp (f_X6_read_13 (nI N) k48 (n + 1) 0 (nI l + 1) I2) _
      rw [f_X6_read_13, if_pos rfl, h48, f13, if_pos n0]
      exact wp_some (wp_some ⟨F1, F2, Or.inr ⟨n0, rfl, f17.symm, f5⟩⟩)
