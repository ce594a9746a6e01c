-- TEXT: the whole of a text
theorem C_c7 {k25 : e_I → Option e_I} : ∀ m i n I, i + m = 5 → m < n → ∃ J, f_X6_clearSheet_7 k25 n (nI i) I = k25 J ∧ fr (fun a x => a = 7 ∧ i ≤ x) I J ∧ ∀ x, i ≤ x → x < 5 → J 7 x = 0 := by
  intro m
  induction m with
  | zero =>
    intro i n I h0 hn
    obtain ⟨n', rfl⟩ : ∃ k, n = k + 1 := ⟨n - 1, by omega⟩
    have h0 : i = 5 := h0
    subst h0
    exact ⟨I, rfl, fr_rfl, fun x h1 h2 => by omega⟩
  | succ m ih =>
    intro i n I h0 hn
    obtain ⟨n', rfl⟩ : ∃ k, n = k + 1 := ⟨n - 1, by omega⟩
    have lt : ¬ nI i ≥ 5 := c_ge (N := 5) (by omega) (by decide)
    have ix : e_ix (nI i) 5 = true := nI_ix (by omega) (by omega)
    have nar : vp_nar .boolean 0 = 0 := by decide
    obtain ⟨J, e, f1, f2⟩ := ih (i + 1) n' (e_ui I 7 i 0) (by omega) (by omega)
    refine ⟨J, ?_, fr_tr (fr_ui ⟨rfl, Nat.le_refl i⟩) (fr_mono (fun a x z => ⟨z.1, by omega⟩) f1), fun x h1 h2 => ?_⟩
    · rw [f_X6_clearSheet_7, if_neg lt]
      unfold e_as
      rw [if_pos ix, nar, let_eq, let_eq, nI_1 i, nI_clamp (n := i) (by omega)]
      exact e
    · by_cases q : x = i
      · subst q
        rw [f1 7 x (fun z => by omega)]
        exact ui_s
      · exact f2 x (by omega) h2
theorem M_z86 {k37 : e_I → Option (Int32 × e_I)} : ∀ m i n J, i + m = 396 → m < n → ∃ K, f_X8_readAll_17 k37 n (nI i) J = k37 K ∧ fr (fun a x => a = 86 ∧ i ≤ x) J K ∧ ∀ x, i ≤ x → x < 396 → K 86 x = 0 := by
  intro m
  induction m with
  | zero =>
    intro i n J h0 hn
    obtain ⟨n', rfl⟩ : ∃ k, n = k + 1 := ⟨n - 1, by omega⟩
    have h0 : i = 396 := h0
    subst h0
    refine ⟨J, ?_, fr_rfl, fun x h1 h2 => by omega⟩
    rw [f_X8_readAll_17, if_pos (show nI 396 ≥ 396 by decide)]
  | succ m ih =>
    intro i n J h0 hn
    obtain ⟨n', rfl⟩ : ∃ k, n = k + 1 := ⟨n - 1, by omega⟩
    have lt : ¬ nI i ≥ 396 := c_ge (N := 396) (by omega) (by decide)
    have ix : e_ix (nI i) 396 = true := nI_ix (by omega) (by omega)
    obtain ⟨K, e, f1, f2⟩ := ih (i + 1) n' (e_ui J 86 i 0) (by omega) (by omega)
    refine ⟨K, ?_, fr_tr (fr_ui ⟨rfl, Nat.le_refl i⟩) (fr_mono (fun a x z => ⟨z.1, by omega⟩) f1), fun x h1 h2 => ?_⟩
    · rw [f_X8_readAll_17, if_neg lt]
      unfold e_as
      rw [if_pos ix, let_eq, let_eq, nI_1 i, nI_clamp (n := i) (by omega)]
      exact e
    · by_cases q : x = i
      · subst q
        rw [f1 86 x (fun z => by omega)]
        exact ui_s
      · exact f2 x (by omega) h2
theorem S_read {N : Nat} {D : Nat → Nat} {I J : e_I} (hN : N ≤ 500) (hc : cT I N D) (hm : mT J N D) (hk : keysT I) (hl : e_max 0 (e_min (nI N) (I 1 3)) = nI N) : wp (f_X6_read (nI N) I) (fun x => wp (f_X8_readAll (nI N) J) (fun y => OUT I J x.1 x.2 y.1 y.2)) := by
  have t0 : (0 : Int32).toNatClampNeg = 0 := rfl
  have t1 : (1 : Int32).toNatClampNeg = 1 := rfl
  have t2 : (2 : Int32).toNatClampNeg = 2 := rfl
  have t3 : (3 : Int32).toNatClampNeg = 3 := rfl
  have t4 : (4 : Int32).toNatClampNeg = 4 := rfl
  have t5 : (5 : Int32).toNatClampNeg = 5 := rfl
  unfold f_X6_read f_X6_startAt f_X6_clearSheet f_X6_read_68
  rw [hl, let_eq, let_eq, let_eq, r_b1, let_eq]
  -- the class's sheet, cleared
  have A1 : fr fC I (e_ui (e_ui (e_ui (e_ui I 1 9 (nI N)) 1 10 0) 1 13 0) 1 4 0) := fr_tr (fr_tr (fr_tr (fr_ui (Or.inl ⟨rfl, by omega⟩)) (fr_ui (Or.inl ⟨rfl, by omega⟩))) (fr_ui (Or.inl ⟨rfl, by omega⟩))) (fr_ui (Or.inl ⟨rfl, by omega⟩))
  have A9 : (e_ui (e_ui (e_ui (e_ui I 1 9 (nI N)) 1 10 0) 1 13 0) 1 4 0) 1 9 = nI N := rfl
  have A10 : (e_ui (e_ui (e_ui (e_ui I 1 9 (nI N)) 1 10 0) 1 13 0) 1 4 0) 1 10 = 0 := rfl
  have A13 : (e_ui (e_ui (e_ui (e_ui I 1 9 (nI N)) 1 10 0) 1 13 0) 1 4 0) 1 13 = 0 := rfl
  have A4 : (e_ui (e_ui (e_ui (e_ui I 1 9 (nI N)) 1 10 0) 1 13 0) 1 4 0) 1 4 = 0 := rfl
  generalize e_ui (e_ui (e_ui (e_ui I 1 9 (nI N)) 1 10 0) 1 13 0) 1 4 0 = I1 at A1 A9 A10 A13 A4 ⊢
  obtain ⟨I2, e2', B1, B2⟩ := C_c7 (k25 := (fun (I_2 : e_I) => e_let (e_ui I_2 4 (0 : Int32).toNatClampNeg 1) (fun (I_3 : e_I) => e_let (e_ui I_3 4 (1 : Int32).toNatClampNeg 2) (fun (I_4 : e_I) => e_let (e_ui I_4 4 (2 : Int32).toNatClampNeg 0) (fun (I_5 : e_I) => e_let (e_ui I_5 4 (3 : Int32).toNatClampNeg 14) (fun (I_6 : e_I) => e_let (e_ui I_6 4 (4 : Int32).toNatClampNeg 30) (fun (I_7 : e_I) => some I_7))))))) 5 0 e_FU I1 rfl (wp_FU (by decide))
  refine wp_e1 (p := e_ui (e_ui (e_ui (e_ui (e_ui I2 4 0 1) 4 1 2) 4 2 0) 4 3 14) 4 4 30) e2' ?_
  have F2 : fr fC I (e_ui (e_ui (e_ui (e_ui (e_ui I2 4 0 1) 4 1 2) 4 2 0) 4 3 14) 4 4 30) := by
    have g : ∀ x : Nat, fC 4 x := fun x => Or.inr (Or.inr (Or.inr (Or.inl rfl)))
    exact fr_tr (fr_tr (fr_tr (fr_tr (fr_tr (fr_tr A1 (fr_mono (fun a x z => Or.inr (Or.inr (Or.inr (Or.inr z.1)))) B1)) (fr_ui (g 0))) (fr_ui (g 1))) (fr_ui (g 2))) (fr_ui (g 3))) (fr_ui (g 4))
  have C1 : ∀ a i, a ≠ 4 → (e_ui (e_ui (e_ui (e_ui (e_ui I2 4 0 1) 4 1 2) 4 2 0) 4 3 14) 4 4 30) a i = I2 a i := fun a i h => (ui_a h).trans ((ui_a h).trans ((ui_a h).trans ((ui_a h).trans (ui_a h))))
  have C4 : (e_ui (e_ui (e_ui (e_ui (e_ui I2 4 0 1) 4 1 2) 4 2 0) 4 3 14) 4 4 30) 4 0 = 1 ∧ (e_ui (e_ui (e_ui (e_ui (e_ui I2 4 0 1) 4 1 2) 4 2 0) 4 3 14) 4 4 30) 4 1 = 2 ∧ (e_ui (e_ui (e_ui (e_ui (e_ui I2 4 0 1) 4 1 2) 4 2 0) 4 3 14) 4 4 30) 4 2 = 0 ∧ (e_ui (e_ui (e_ui (e_ui (e_ui I2 4 0 1) 4 1 2) 4 2 0) 4 3 14) 4 4 30) 4 3 = 14 ∧ (e_ui (e_ui (e_ui (e_ui (e_ui I2 4 0 1) 4 1 2) 4 2 0) 4 3 14) 4 4 30) 4 4 = 30 := ⟨rfl, rfl, rfl, rfl, rfl⟩
  generalize e_ui (e_ui (e_ui (e_ui (e_ui I2 4 0 1) 4 1 2) 4 2 0) 4 3 14) 4 4 30 = I3 at F2 C1 C4 ⊢
  have i1 : ∀ i, I3 1 i = I1 1 i := fun i => (C1 1 i (by decide)).trans (B1 1 i (fun z => by cases z.1))
  -- the model's
  obtain ⟨J2, e3, X1, X2⟩ := M_z86 (k37 := (fun (I_4 : e_I) => e_let (e_ui I_4 86 (1 : Int32).toNatClampNeg 1) (fun (I_5 : e_I) => e_let (e_ui I_5 86 (2 : Int32).toNatClampNeg 2) (fun (I_6 : e_I) => e_let (e_ui I_6 86 (4 : Int32).toNatClampNeg 14) (fun (I_7 : e_I) => e_let (e_ui I_7 86 (5 : Int32).toNatClampNeg 30) (fun (I_8 : e_I) => e_b1 (f_X8_goesOn I_8) (fun (I_9 : e_I) => e_b2 (f_X8_readLine I_9) (fun (r_10 : Int32) (I_11 : e_I) => if r_10 ≠ 0 then (f_X8_readAll_80 (fun (I_13 : e_I) => if (I_13 83 14) = 0 then (if (I_13 86 (0 : Int32).toNatClampNeg) > 0 then (f_X8_readAll_132 I_13) else (e_b2 (f_X8_errs 5 I_13) (fun (r_16 : Int32) (I_17 : e_I) => if r_16 = 0 then (f_X8_readAll_137 0 I_17) else (f_X8_readAll_132 I_17)))) else (e_b2 (f_X8_errs 1 I_13) (fun (r_19 : Int32) (I_20 : e_I) => e_as (r_19 = 0 ∨ r_19 = 1) (some (r_19, I_20))))) (fun (I_22 : e_I) => some (0, I_22)) e_FU I_11) else (some (0, I_11)))))))))) 396 0 e_FU (e_ui (e_ui (e_ui J 83 11 (nI N)) 83 13 0) 83 16 0) rfl (wp_FU (by decide))
  have w8 : f_X8_readAll (nI N) J = e_b1 (f_X8_goesOn (e_ui (e_ui (e_ui (e_ui J2 86 1 1) 86 2 2) 86 4 14) 86 5 30)) (fun (I_9 : e_I) => e_b2 (f_X8_readLine I_9) (fun (r_10 : Int32) (I_11 : e_I) => if r_10 ≠ 0 then (f_X8_readAll_80 (fun (I_13 : e_I) => if (I_13 83 14) = 0 then (if (I_13 86 (0 : Int32).toNatClampNeg) > 0 then (f_X8_readAll_132 I_13) else (e_b2 (f_X8_errs 5 I_13) (fun (r_16 : Int32) (I_17 : e_I) => if r_16 = 0 then (f_X8_readAll_137 0 I_17) else (f_X8_readAll_132 I_17)))) else (e_b2 (f_X8_errs 1 I_13) (fun (r_19 : Int32) (I_20 : e_I) => e_as (r_19 = 0 ∨ r_19 = 1) (some (r_19, I_20))))) (fun (I_22 : e_I) => some (0, I_22)) e_FU I_11) else (some (0, I_11)))) := by
    unfold f_X8_readAll
    rw [let_eq, let_eq, let_eq]
    exact e3
  rw [w8]
  have Y1 : fr fM J (e_ui (e_ui (e_ui (e_ui J2 86 1 1) 86 2 2) 86 4 14) 86 5 30) := by
    have g : ∀ x : Nat, fM 86 x := fun x => Or.inr (Or.inl rfl)
    have a : fr fM J (e_ui (e_ui (e_ui J 83 11 (nI N)) 83 13 0) 83 16 0) := fr_tr (fr_tr (fr_ui (Or.inl ⟨rfl, by decide, by decide⟩)) (fr_ui (Or.inl ⟨rfl, by decide, by decide⟩))) (fr_ui (Or.inl ⟨rfl, by decide, by decide⟩))
    exact fr_tr (fr_tr (fr_tr (fr_tr (fr_tr a (fr_mono (fun a x z => Or.inr (Or.inl z.1)) X1)) (fr_ui (g 1))) (fr_ui (g 2))) (fr_ui (g 4))) (fr_ui (g 5))
  have Y2 : ∀ a i, a ≠ 86 → (e_ui (e_ui (e_ui (e_ui J2 86 1 1) 86 2 2) 86 4 14) 86 5 30) a i = (e_ui (e_ui (e_ui J 83 11 (nI N)) 83 13 0) 83 16 0) a i := fun a i h => (ui_a h).trans ((ui_a h).trans ((ui_a h).trans ((ui_a h).trans (X1 a i (fun z => h z.1)))))
  have z0 : ∀ x, x < 396 → J2 86 x = 0 := fun x hx => X2 x (Nat.zero_le x) hx
  have Y6 : (e_ui (e_ui (e_ui (e_ui J2 86 1 1) 86 2 2) 86 4 14) 86 5 30) 86 0 = 0 ∧ (e_ui (e_ui (e_ui (e_ui J2 86 1 1) 86 2 2) 86 4 14) 86 5 30) 86 1 = 1 ∧ (e_ui (e_ui (e_ui (e_ui J2 86 1 1) 86 2 2) 86 4 14) 86 5 30) 86 2 = 2 ∧ (e_ui (e_ui (e_ui (e_ui J2 86 1 1) 86 2 2) 86 4 14) 86 5 30) 86 3 = 0 ∧ (e_ui (e_ui (e_ui (e_ui J2 86 1 1) 86 2 2) 86 4 14) 86 5 30) 86 4 = 14 ∧ (e_ui (e_ui (e_ui (e_ui J2 86 1 1) 86 2 2) 86 4 14) 86 5 30) 86 5 = 30 := ⟨z0 0 (by decide), rfl, rfl, z0 3 (by decide), rfl, rfl⟩
  generalize e_ui (e_ui (e_ui (e_ui J2 86 1 1) 86 2 2) 86 4 14) 86 5 30 = J3 at Y1 Y2 Y6 ⊢
  have m11 : J3 83 11 = nI N := (Y2 83 11 (by decide)).trans rfl
  have m13 : J3 83 13 = nI 0 := (Y2 83 13 (by decide)).trans rfl
  have m16 : J3 83 16 = 0 := (Y2 83 16 (by decide)).trans rfl
  have st : ST0 N D I3 J3 := ⟨hN, cT_fr (fun i => F2 5 i (fun z => by rcases z with z | z | z | z | z <;> omega)) hc, mT_fr (fun i => Y1 84 i (fun z => by rcases z with z | z | z <;> omega)) hm, (i1 9).trans A9, m11, fun i hi => (F2 6 i (fun z => by rcases z with z | z | z | z | z <;> omega)).trans (hk i hi), (i1 13).trans A13⟩
  have sh : SH 0 I3 J3 := by
    refine ⟨⟨by decide, (i1 4).trans A4, Y6.1⟩, fun r hr => Or.inl ⟨(C1 7 r (by decide)).trans (B2 r (Nat.zero_le r) hr), fun n => ?_⟩, fun r hr => ?_, fun b hb => by omega⟩
    · rw [m16] at n
      unfold b1t at n
      rw [bt_0 r (by omega)] at n
      exact absurd n (by decide)
    · have cs : r = 0 ∨ r = 1 ∨ r = 2 ∨ r = 3 ∨ r = 4 := by omega
      obtain ⟨c0, c1, c2, c3, c4⟩ := C4
      obtain ⟨y0, y1, y2, y3, y4, y5⟩ := Y6
      rcases cs with rfl | rfl | rfl | rfl | rfl
      · exact ⟨1, c0, y1, by decide, by decide⟩
      · exact ⟨2, c1, y2, by decide, by decide⟩
      · exact ⟨0, c2, y3, by decide, by decide⟩
      · exact ⟨14, c3, y4, by decide, by decide⟩
      · exact ⟨30, c4, y5, by decide, by decide⟩
  obtain ⟨J4, e4, x1, x2⟩ := st_M st (Nat.zero_le N) m13
  rw [e4, r_b1]
  have ps : PS N D 0 0 I3 J4 := ⟨ST0_s fr_rfl x1 st, SH_s fr_rfl x1 sh, Nat.zero_le N, (i1 10).trans A10, x2⟩
  have FJ : fr fM J J4 := fr_tr Y1 (fr_mono (fun a i z => gS_fM z) x1)
  refine wp_mono (S_all (N := N) (D := D) (k48 := (fun (I_3 : e_I) => if (I_3 1 13) ≠ 0 then (some ((I_3 1 13), I_3)) else (if (I_3 1 4) ≠ 0 then (some ((I_3 1 13), I_3)) else (e_b2 (f_X6_blame 5 I_3) (fun (r_6 : Int32) (I_7 : e_I) => some ((I_7 1 13), I_7)))))) (k102 := (fun (I_13 : e_I) => if (I_13 83 14) = 0 then (if (I_13 86 (0 : Int32).toNatClampNeg) > 0 then (f_X8_readAll_132 I_13) else (e_b2 (f_X8_errs 5 I_13) (fun (r_16 : Int32) (I_17 : e_I) => if r_16 = 0 then (f_X8_readAll_137 0 I_17) else (f_X8_readAll_132 I_17)))) else (e_b2 (f_X8_errs 1 I_13) (fun (r_19 : Int32) (I_20 : e_I) => e_as (r_19 = 0 ∨ r_19 = 1) (some (r_19, I_20)))))) (k100 := (fun (I_22 : e_I) => some (0, I_22))) (fun I => rfl) (fun J => ?_) (fun J => rfl) (N + 1) 0 0 e_FU e_FU 0 I3 J4 (by omega) (wp_FU (by omega)) (wp_FU (by omega)) (Nat.le_refl 0) ps) (fun x hx => wp_mono hx (fun y hy => OUT_fr F2 FJ hy))
  unfold f_X8_readAll_132 f_X8_readAll_137
  rw [er_eq, er_eq, r_b2, r_b2, as_1, as_0, as_0, if_pos rfl]
  rfl
