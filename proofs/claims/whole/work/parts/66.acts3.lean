-- ACTS: swap, shift
def tau (i j k : Nat) : Nat := if k = j then i else if k = i then j else k
def swO (O : Nat → Nat) (i j k : Nat) : Nat := O (tau i j k)
theorem tau_lt {i j k c : Nat} (hi : i < c) (hj : j < c) (hk : k < c) : tau i j k < c := by
  unfold tau
  split
  · exact hi
  · split
    · exact hj
    · exact hk
theorem tau_inj {i j x y : Nat} (h : tau i j x = tau i j y) : x = y := by
  unfold tau at h
  by_cases a : x = j
  · rw [if_pos a] at h
    by_cases b : y = j
    · omega
    · rw [if_neg b] at h
      by_cases c : y = i
      · rw [if_pos c] at h
        omega
      · rw [if_neg c] at h
        omega
  · rw [if_neg a] at h
    by_cases a2 : x = i
    · rw [if_pos a2] at h
      by_cases b : y = j
      · rw [if_pos b] at h
        omega
      · rw [if_neg b] at h
        by_cases c : y = i
        · omega
        · rw [if_neg c] at h
          omega
    · rw [if_neg a2] at h
      by_cases b : y = j
      · rw [if_pos b] at h
        omega
      · rw [if_neg b] at h
        by_cases c : y = i
        · rw [if_pos c] at h
          omega
        · rw [if_neg c] at h
          exact h
theorem C_putAt {I : e_I} {g i : Nat} {x : Int32} (hi : i < 9) : f_X0_putAt g (nI i) x I = some (e_ui I (g + 3) i x) := by
  unfold f_X0_putAt f_X0_putAt_17 e_as
  rw [r_within, if_pos (show (0 : Int32) ≤ nI i ∧ nI i ≤ 8 from ⟨nI_pos' (by omega), nI_le (b := 8) (by omega) (by decide)⟩), r_b1, if_neg (by decide), if_pos (nI_ix (by omega) (by omega)), nI_clamp (by omega)]
  rfl
theorem C_exchange {I : e_I} {g c s d f sl ti i j : Nat} {CH : Nat → Nat → Nat} {O : Nat → Nat} (hv : CV I g c s d f sl ti CH O) (hc : c ≤ 9) (hi : i < c) (hj : j < c) : wp (f_X0_exchange g (nI i) (nI j) I) (fun J => (∀ a k, a ≠ g + 3 → J a k = I a k) ∧ ∀ k, J (g + 3) k = I (g + 3) (tau i j k)) := by
  unfold f_X0_exchange
  rw [C_batterAt hv hc hi, r_b1, C_batterAt hv hc hj, r_b1, C_putAt (by omega), r_b1, C_putAt (by omega), r_b1]
  refine wp_some ⟨fun a k h => by rw [ui_a h, ui_a h], fun k => ?_⟩
  unfold tau
  by_cases a : k = j
  · subst a
    rw [if_pos rfl, ui_s]
    exact (hv.2.2.2 i hi).1.symm
  · rw [if_neg a, ui_i a]
    by_cases b : k = i
    · subst b
      rw [if_pos rfl, ui_s]
      exact (hv.2.2.2 j hj).1.symm
    · rw [if_neg b, ui_i b]
theorem CV_ex {I J : e_I} {g c s d f sl ti i j : Nat} {CH : Nat → Nat → Nat} {O : Nat → Nat} (hv : CV I g c s d f sl ti CH O) (hi : i < c) (hj : j < c) (h0 : ∀ a k, a ≠ g + 3 → J a k = I a k) (h3 : ∀ k, J (g + 3) k = I (g + 3) (tau i j k)) : CV J g c s d f sl ti CH (swO O i j) := by
  refine ⟨(h0 g 0 (by omega)).trans hv.1, ⟨(h0 _ 0 (by omega)).trans hv.2.1.1, (h0 _ 1 (by omega)).trans hv.2.1.2.1, (h0 _ 2 (by omega)).trans hv.2.1.2.2.1, (h0 _ 3 (by omega)).trans hv.2.1.2.2.2.1, (h0 _ 4 (by omega)).trans hv.2.1.2.2.2.2⟩, fun x hx e he => (h0 _ _ (by omega)).trans (hv.2.2.1 x hx e he), fun k hk => ?_⟩
  have t := hv.2.2.2 _ (tau_lt hi hj hk)
  exact ⟨(h3 k).trans t.1, t.2⟩
theorem M_changes {I : e_I} {a1 x y : Nat} (hx : x < e_ln a1) (hy : y < e_ln a1) (hx2 : x < 10000) (hy2 : y < 10000) : wp (f_X8_changes a1 (nI x) (nI y) I) (fun J => (∀ a k, a ≠ a1 → J a k = I a k) ∧ ∀ k, J a1 k = I a1 (tau x y k)) := by
  unfold f_X8_changes
  refine wp_as (nI_ix hx (by omega)) (wp_let (wp_as (nI_ix hy (by omega)) (wp_as (nI_ix hx (by omega)) (wp_let (wp_as (nI_ix hy (by omega)) (wp_let (wp_some ?_)))))))
  rw [nI_clamp (n := x) (by omega), nI_clamp (n := y) (by omega)]
  refine ⟨fun a k h => by rw [ui_a h, ui_a h], fun k => ?_⟩
  unfold tau
  by_cases a : k = y
  · subst a
    rw [if_pos rfl, ui_s]
  · rw [if_neg a, ui_i a]
    by_cases b : k = x
    · subst b
      rw [if_pos rfl, ui_s]
    · rw [if_neg b, ui_i b]
theorem tau_60 {i j k : Nat} : tau (60 + i) (60 + j) (60 + k) = 60 + tau i j k := by
  unfold tau
  by_cases a : k = j
  · rw [if_pos a, if_pos (by omega)]
  · rw [if_neg a, if_neg (by omega)]
    by_cases b : k = i
    · rw [if_pos b, if_pos (by omega)]
    · rw [if_neg b, if_neg (by omega)]
theorem tau_o {i j k : Nat} (h1 : k ≠ i) (h2 : k ≠ j) : tau i j k = k := by
  unfold tau
  rw [if_neg h2, if_neg h1]
theorem T_swap (t : Nat) (ht : t < 600) : ST_swap (Rl t) (Rl (t + 1)) := by
  intro i j I L h
  have hx := Rl_hx h
  obtain ⟨m1, m2, m3⟩ := r_many h.2.2.1
  have hb8 : ∀ (J : e_I) (v : Int32), (∀ i, J 85 i = I 85 i) → f_X8_isBatter v J = some (if 0 ≤ v ∧ v < I 85 0 then 1 else 0) := fun J v hJ => by
    have e := r_isBatter (I := J) (v := v) (by rw [hJ]; exact m2) (by rw [hJ]; exact m3)
    rwa [hJ] at e
  let X : Int32 := if (0 ≤ i ∧ i < I 85 0) ∧ (0 ≤ j ∧ j < I 85 0) then (if i ≠ j then 0 else 5) else 1
  have w7 : f_X7_swap i j I = f_X7_swap_37 i j X I := by
    unfold f_X7_swap f_X7_swap_23
    rw [r_hasPlace, r_hasPlace, m1, r_b1]
    by_cases h1 : 0 ≤ i ∧ i < I 85 0
    · rw [if_pos h1, if_neg (by decide), r_b1]
      by_cases h2 : 0 ≤ j ∧ j < I 85 0
      · rw [if_pos h2, if_pos (by decide)]
        have eX : X = if i ≠ j then 0 else 5 := if_pos ⟨h1, h2⟩
        rw [eX]
        by_cases h3 : i ≠ j
        · rw [if_pos h3, if_pos h3]
        · rw [if_neg h3, if_neg h3]
      · rw [if_neg h2, if_neg (fun n => n rfl), show X = 1 from if_neg (fun n => h2 n.2)]
    · rw [if_neg h1, if_pos rfl, show X = 1 from if_neg (fun n => h1 n.1)]
  have w8 : ∀ J : e_I, (∀ i, J 85 i = I 85 i) → f_X8_swap i j J = f_X8_swap_31 i j X J := fun J hJ => by
    unfold f_X8_swap f_X8_swap_17
    rw [hb8 J i hJ, hb8 J j hJ, r_b1]
    by_cases h1 : 0 ≤ i ∧ i < I 85 0
    · rw [if_pos h1, if_neg (by decide), r_b1]
      by_cases h2 : 0 ≤ j ∧ j < I 85 0
      · rw [if_pos h2, if_pos (by decide)]
        have eX : X = if i ≠ j then 0 else 5 := if_pos ⟨h1, h2⟩
        rw [eX]
        by_cases h3 : i ≠ j
        · rw [if_pos h3, if_pos h3]
        · rw [if_neg h3, if_neg h3]
      · rw [if_neg h2, if_neg (fun n => n rfl), show X = 1 from if_neg (fun n => h2 n.2)]
    · rw [if_neg h1, if_pos rfl, show X = 1 from if_neg (fun n => h1 n.1)]
  have bad : X ≠ 0 → X ≠ 4 → ∃ r I1 I2, f_X7_swap i j I = some (r, I1) ∧ f_X8_swap i j I1 = some (r, I2) ∧ Rl (t + 1) I2 L := fun h0 h4 => by
    refine bad_1 (v := X) h h4 ?_ ?_
    · rw [w7]
      unfold f_X7_swap_37
      rw [r_refused, r_b2, r_b_n h0]
      rfl
    · rw [w8 (r_R7 I X) (fun i => rfl)]
      unfold f_X8_swap_31
      rw [r_isRefused, r_b2, r_b_n h0]
      rfl
  by_cases hc : (0 ≤ i ∧ i < I 85 0) ∧ (0 ≤ j ∧ j < I 85 0)
  · by_cases hij : i ≠ j
    · have eX : X = 0 := (if_pos hc).trans (if_pos hij)
      rw [eX] at w7 w8
      have hx0 := Rl_tx h hc.1
      obtain ⟨c, s, d, f, sl, ti, CH, O, b, fc, st, n, w, gN, gC, gM, g2, gT, gf⟩ := Rl_nums h hx0 ht
      have c9 := gN.1.1.2
      have e0 : I 85 0 = nI c := gM.1.1
      rw [e0] at hc
      obtain ⟨x, hx2, rfl⟩ := nI_of (Int32.not_lt.mpr hc.1.1)
      obtain ⟨y, hy2, rfl⟩ := nI_of (Int32.not_lt.mpr hc.2.1)
      have hxc : x < c := (nI_ltI hx2 (by omega)).mp hc.1.2
      have hyc : y < c := (nI_ltI hy2 (by omega)).mp hc.2.2
      have gN' : GN c s d f sl ti CH (swO O x y) b st n w := ⟨gN.1, fun k hk => gN.2.1 _ (tau_lt hxc hyc hk), fun k l hk hl e => tau_inj (gN.2.2.1 _ _ (tau_lt hxc hyc hk) (tau_lt hxc hyc hl) e), gN.2.2.2⟩
      refine act_go (o7 := f_X7_swap (nI x) (nI y) I) (f8 := f_X8_swap (nI x) (nI y)) h hx0 ht (fun (I_4 : e_I) => e_b1 (f_X0_exchange 23 (nI x) (nI y) I_4) (fun (I_5 : e_I) => e_b1 (f_X0_batterAt 23 (nI x) I_5) (fun (r_6 : Int32) => some (r_6, I_5)))) (fun (I_4 : e_I) => e_b1 (f_X8_changes 85 ((60 : Int32) + nI x) ((60 : Int32) + nI y) I_4) (fun (I_5 : e_I) => e_as (e_ix ((60 : Int32) + nI x) 396 = true) (some ((I_5 85 ((60 : Int32) + nI x).toNatClampNeg), I_5)))) ?_ ?_ gN gC gM g2 gT gf (fc' := fc) gN' (by omega) (nI (swO O x y x)) ?_
      · rw [w7]
        unfold f_X7_swap_37
        rw [r_refused, r_b2, if_pos (by rfl)]
      · intro J _ h85
        rw [w8 J h85]
        unfold f_X8_swap_31
        rw [r_isRefused, r_b2, if_pos (by rfl)]
      · intro A aC aT aI
        obtain ⟨v, k4, k5, k2, k6, k7⟩ := aC
        refine wp_c1 (C_exchange v c9 hxc hyc) (fun D hD => ?_)
        obtain ⟨d0, d3⟩ := hD
        have vD := CV_ex v hxc hyc d0 d3
        refine wp_e1 (C_batterAt vD c9 hxc) (wp_some ⟨rfl, fun a i z _ _ _ => d0 a i (by omega), ⟨vD, (d0 23 4 (by decide)).trans k4, (d0 23 5 (by decide)).trans k5, (d0 23 2 (by decide)).trans k2, (d0 23 6 (by decide)).trans k6, (d0 23 7 (by decide)).trans k7⟩, c_T_fr (fun i => d0 13 i (by decide)) (fun i => d0 14 i (by decide)) aT, fun B bM b85 => ?_⟩)
        obtain ⟨mv, mo, m72, m73, m70, m71, m75⟩ := bM
        have l85 : e_ln 85 = 396 := rfl
        rw [n60, nI_add, nI_add]
        refine wp_c1 (M_changes (by rw [l85]; omega) (by rw [l85]; omega) (by omega) (by omega)) (fun E hE => ?_)
        obtain ⟨f0, f1⟩ := hE
        have o : ∀ i, i < 60 ∨ 69 ≤ i → E 85 i = B 85 i := fun i hi => by rw [f1, tau_o (by omega) (by omega)]
        have mo' : ∀ k, k < c → E 85 (60 + k) = nI (swO O x y k) := fun k hk => by
          rw [f1, tau_60]
          exact mo _ (tau_lt hxc hyc hk)
        refine wp_as (nI_ix (by omega) (by omega)) (wp_some ?_)
        rw [nI_clamp (n := 60 + x) (by omega)]
        refine ⟨mo' x hxc, f0, ⟨⟨(o 0 (by omega)).trans mv.1, ⟨(o 1 (by omega)).trans mv.2.1.1, (o 2 (by omega)).trans mv.2.1.2.1, (o 3 (by omega)).trans mv.2.1.2.2⟩, (o 4 (by omega)).trans mv.2.2.1, (o 5 (by omega)).trans mv.2.2.2.1, fun x1 hx1 x2 hx2 => (o _ (by omega)).trans (mv.2.2.2.2 x1 hx1 x2 hx2)⟩, mo', (o 72 (by omega)).trans m72, (o 73 (by omega)).trans m73, (o 70 (by omega)).trans m70, (o 71 (by omega)).trans m71, (o 75 (by omega)).trans m75⟩, ?_, o 0 (by omega)⟩
        obtain ⟨h1, h3, hl⟩ := g2
        refine ⟨?_, ?_, fun j hj => ?_⟩
        · show D 23 1 = E 85 69
          rw [d0 23 1 (by decide), o 69 (by omega), b85, aI 23 1 (by decide) (by decide)]
          exact h1
        · show D 23 3 = E 85 74
          rw [d0 23 3 (by decide), o 74 (by omega), b85, aI 23 3 (by decide) (by decide)]
          exact h3
        · refine r_note_congr (fun i hi => ?_) (fun i hi => ?_) (hl j hj)
          · show D 27 _ = _
            rw [d0 27 _ (by decide), aI 27 _ (by decide) (by decide)]
          · show E 85 _ = _
            rw [o _ (by omega), b85]
    · have eX : X = 5 := (if_pos hc).trans (if_neg hij)
      refine bad ?_ ?_ <;> rw [eX] <;> decide
  · have eX : X = 1 := if_neg hc
    refine bad ?_ ?_ <;> rw [eX] <;> decide
-- shift
theorem hs_upd {g : Nat → Nat} {p x : Nat} : ∀ n, p < n → hs (fun e => if e = p then x else g e) n + g p = hs g n + x
  | 0, h => by omega
  | n + 1, h => by
    show hs (fun e => if e = p then x else g e) n + (if n = p then x else g n) + g p = hs g n + g n + x
    by_cases q : n = p
    · have e : hs (fun e => if e = p then x else g e) n = hs g n := hs_congr n (fun e he => if_neg (by omega))
      rw [if_pos q, e, q]
      omega
    · have ih := hs_upd (g := g) (p := p) (x := x) n (by omega)
      rw [if_neg q]
      omega
def shC (CH : Nat → Nat → Nat) (b p q n : Nat) (x e : Nat) : Nat := if x = b then (if e = q then CH b q + n else if e = p then CH b p - n else CH b e) else CH x e
theorem shC_sum {CH : Nat → Nat → Nat} {b p q n x : Nat} (h : hs (CH x) 6 = 20) (hp : p < 6) (hq : q < 6) (hpq : p ≠ q) (hn : n ≤ CH b p) : hs (shC CH b p q n x) 6 = 20 := by
  by_cases z : x = b
  · subst z
    have e : shC CH x p q n x = fun e => if e = q then CH x q + n else (fun e => if e = p then CH x p - n else CH x e) e := by
      funext e
      unfold shC
      rw [if_pos rfl]
    have a := hs_upd (g := fun e => if e = p then CH x p - n else CH x e) (p := q) (x := CH x q + n) 6 hq
    have b := hs_upd (g := CH x) (p := p) (x := CH x p - n) 6 hp
    have c : (if q = p then CH x p - n else CH x q) = CH x q := if_neg (fun z => hpq z.symm)
    rw [← e, c] at a
    omega
  · have e : shC CH b p q n x = CH x := by
      funext e
      unfold shC
      rw [if_neg z]
    rw [e]
    exact h
theorem C_putChance {I : e_I} {g b e : Nat} {x : Int32} (hb : b < 9) (he : e < 6) : f_X0_putChance g (nI b) (nI e) x I = some (e_ui I (g + 1) (6 * b + e) x) := by
  have ix : nI b * 6 + nI e = nI (6 * b + e) := by rw [n6, nI_mul, nI_add, Nat.mul_comm]
  unfold f_X0_putChance f_X0_putChance_32 e_as
  rw [if_neg (nI_pos (by omega)), if_neg (show ¬ nI b ≥ 9 from c_ge (N := 9) hb (by decide)), if_neg (nI_pos (by omega)), if_neg (show ¬ nI e ≥ 6 from c_ge (N := 6) he (by decide)), ix, if_pos (nI_ix (by omega) (by omega)), nI_clamp (by omega)]
  rfl
theorem C_chanceAt {I : e_I} {g b e : Nat} (hb : b < 9) (he : e < 6) : f_X0_chanceOf g (nI b) (nI e) I = some (I (g + 1) (6 * b + e)) := by
  have ix : nI b * 6 + nI e = nI (6 * b + e) := by rw [n6, nI_mul, nI_add, Nat.mul_comm]
  unfold f_X0_chanceOf f_X0_chanceOf_35 e_as
  rw [if_neg (nI_pos (by omega)), if_neg (show ¬ nI b ≥ 9 from c_ge (N := 9) hb (by decide)), if_neg (nI_pos (by omega)), if_neg (show ¬ nI e ≥ 6 from c_ge (N := 6) he (by decide)), ix, if_pos (nI_ix (by omega) (by omega)), nI_clamp (by omega)]
theorem T_shift (t : Nat) (ht : t < 600) : ST_shift (Rl t) (Rl (t + 1)) := by
  intro b p q n I L h
  have hx := Rl_hx h
  obtain ⟨m1, m2, m3⟩ := r_many h.2.2.1
  have hb8 : ∀ (J : e_I) (v : Int32), (∀ i, J 85 i = I 85 i) → f_X8_isBatter v J = some (if 0 ≤ v ∧ v < I 85 0 then 1 else 0) := fun J v hJ => by
    have e := r_isBatter (I := J) (v := v) (by rw [hJ]; exact m2) (by rw [hJ]; exact m3)
    rwa [hJ] at e
  have bad : ∀ x, x ≠ 0 → x ≠ 4 → f_X7_troubleOfShift b p q n I = some x → f_X8_shift b p q n (r_R7 I x) = f_X8_shift_84 b p q n x (r_R7 I x) → ∃ r I1 I2, f_X7_shift b p q n I = some (r, I1) ∧ f_X8_shift b p q n I1 = some (r, I2) ∧ Rl (t + 1) I2 L := fun x h0 h4 e7 e8 => by
    refine bad_1 (v := x) h h4 ?_ ?_
    · unfold f_X7_shift
      rw [e7, r_b1, r_refused, r_b2, r_b_n h0]
      rfl
    · rw [e8]
      unfold f_X8_shift_84
      rw [r_isRefused, r_b2, r_b_n h0]
      rfl
  have z31 : ∀ J, f_X8_shift_31 b p q n 0 J = f_X8_shift_84 b p q n 1 J := fun J => by
    unfold f_X8_shift_31
    rw [r_in, r_b1, r_unless_, if_pos rfl, r_b1, if_neg (by decide)]
  by_cases h1 : 0 ≤ b ∧ b < I 85 0
  · by_cases h2 : 0 ≤ p ∧ p ≤ 5
    · by_cases h3 : 0 ≤ q ∧ q ≤ 5
      · have w8 : ∀ J : e_I, (∀ i, J 85 i = I 85 i) → f_X8_shift b p q n J = f_X8_shift_31 b p q n 1 J := fun J hJ => by
          unfold f_X8_shift
          rw [hb8 J b hJ, if_pos h1, r_b1, if_neg (by decide), r_in, if_pos h2, r_b1, if_neg (by decide), r_in, if_pos h3, r_b1, if_neg (by decide)]
        have w7 : f_X7_troubleOfShift b p q n I = (if 1 ≤ n ∧ n ≤ 20 then (if p = q then some 5 else e_b1 (f_X0_chanceOf 23 b p I) (fun (r_10 : Int32) => if r_10 ≥ n then some 0 else some 5)) else some 2) := by
          unfold f_X7_troubleOfShift f_X7_troubleOfShift_59 f_X7_troubleOfShift_64
          rw [r_batter_has, m1, if_pos h1, r_b1, if_neg (by decide), t_hit, if_pos h2, r_b1, if_neg (by decide), t_hit, if_pos h3, r_b1, if_pos (by decide), r_within, r_b1]
          by_cases h4 : 1 ≤ n ∧ n ≤ 20
          · rw [if_pos h4, if_pos h4, if_pos (by decide)]
          · rw [if_neg h4, if_neg h4, if_neg (fun n => n rfl)]
        by_cases h4 : 1 ≤ n ∧ n ≤ 20
        · rw [if_pos h4] at w7
          have v8 : ∀ J : e_I, (∀ i, J 85 i = I 85 i) → f_X8_shift b p q n J = (if p = q then f_X8_shift_84 b p q n 5 J else e_as (e_ix (((6 : Int32) + ((6 : Int32) * b)) + p) 396 = true) (if (J 85 (((6 : Int32) + ((6 : Int32) * b)) + p).toNatClampNeg) ≥ n then f_X8_shift_84 b p q n 0 J else f_X8_shift_84 b p q n 5 J)) := fun J hJ => by
            rw [w8 J hJ]
            unfold f_X8_shift_31 f_X8_shift_79
            rw [r_in, if_pos h4, r_b1, r_unless_, if_neg (by decide), if_neg (by decide), r_b1, if_pos rfl]
          by_cases h5 : p = q
          · rw [if_pos h5] at w7
            refine bad 5 (by decide) (by decide) w7 ?_
            rw [v8 (r_R7 I 5) (fun i => rfl), if_pos h5]
          · rw [if_neg h5] at w7
            have hx0 := Rl_tx h h1
            obtain ⟨c, s, d, f, sl, ti, CH, O, nx, fc, st, m, w, gN, gC, gM, g2, gT, gf⟩ := Rl_nums h hx0 ht
            have c9 := gN.1.1.2
            have e0 : I 85 0 = nI c := gM.1.1
            rw [e0] at h1
            obtain ⟨B, hB2, rfl⟩ := nI_of (Int32.not_lt.mpr h1.1)
            have hB : B < c := (nI_ltI hB2 (by omega)).mp h1.2
            obtain ⟨P, _, hP, rfl⟩ := nI_btw (m := 0) (n := 5) rfl rfl h2.1 h2.2
            obtain ⟨Q, _, hQ, rfl⟩ := nI_btw (m := 0) (n := 5) rfl rfl h3.1 h3.2
            obtain ⟨N, hN1, hN, rfl⟩ := nI_btw (m := 1) (n := 20) rfl rfl h4.1 h4.2
            have hPQ : P ≠ Q := fun z => h5 (by rw [z])
            have l20 := CH_le (gN.1.2.2.2.2 B hB) (show P < 6 by omega)
            have l20q := CH_le (gN.1.2.2.2.2 B hB) (show Q < 6 by omega)
            have ixp : (6 : Int32) + (6 : Int32) * nI B + nI P = nI (6 + 6 * B + P) := by rw [n6, nI_mul, nI_add, nI_add]
            have ixq : (6 : Int32) + (6 : Int32) * nI B + nI Q = nI (6 + 6 * B + Q) := by rw [n6, nI_mul, nI_add, nI_add]
            rw [C_chanceOf gC.1 hB c9 (by omega), r_b1] at w7
            have v8' : ∀ J : e_I, (∀ i, J 85 i = I 85 i) → f_X8_shift (nI B) (nI P) (nI Q) (nI N) J = if nI (CH B P) ≥ nI N then f_X8_shift_84 (nI B) (nI P) (nI Q) (nI N) 0 J else f_X8_shift_84 (nI B) (nI P) (nI Q) (nI N) 5 J := fun J hJ => by
              have r := gM.1.2.2.2.2 B hB P (by omega)
              unfold e_as at v8
              rw [v8 J hJ, if_neg h5, ixp, if_pos (nI_ix (by omega) (by omega)), nI_clamp (by omega), hJ, r]
            by_cases h6 : N ≤ CH B P
            · have h6' : nI (CH B P) ≥ nI N := nI_le h6 (by omega)
              rw [if_pos h6'] at w7
              have gN' : GN c s d f sl ti (shC CH B P Q N) O nx st m w := ⟨⟨gN.1.1, gN.1.2.1, gN.1.2.2.1, gN.1.2.2.2.1, fun x hx => shC_sum (gN.1.2.2.2.2 x hx) (by omega) (by omega) hPQ h6⟩, gN.2⟩
              refine act_go (o7 := f_X7_shift (nI B) (nI P) (nI Q) (nI N) I) (f8 := f_X8_shift (nI B) (nI P) (nI Q) (nI N)) h hx0 ht (fun (I_5 : e_I) =>
    e_b1 (f_X0_chanceOf 23 (nI B) (nI P) I_5) (fun (r_6 : Int32) =>
    e_b1 (f_X0_putChance 23 (nI B) (nI P) (r_6 - nI N) I_5) (fun (I_7 : e_I) =>
    e_b1 (f_X0_chanceOf 23 (nI B) (nI Q) I_7) (fun (r_8 : Int32) =>
    e_b1 (f_X0_putChance 23 (nI B) (nI Q) (r_8 + nI N) I_7) (fun (I_9 : e_I) =>
    e_b1 (f_X0_chanceOf 23 (nI B) (nI Q) I_9) (fun (r_10 : Int32) =>
    some (r_10, I_9))))))) (fun (I_4 : e_I) =>
    e_as (e_ix (((6 : Int32) + ((6 : Int32) * nI B)) + nI P) 396 = true) (
    e_as (e_ix (((6 : Int32) + ((6 : Int32) * nI B)) + nI P) 396 = true) (
    e_let (e_ui I_4 85 (((6 : Int32) + ((6 : Int32) * nI B)) + nI P).toNatClampNeg ((I_4 85 (((6 : Int32) + ((6 : Int32) * nI B)) + nI P).toNatClampNeg) - nI N)) (fun (I_7 : e_I) =>
    e_as (e_ix (((6 : Int32) + ((6 : Int32) * nI B)) + nI Q) 396 = true) (
    e_as (e_ix (((6 : Int32) + ((6 : Int32) * nI B)) + nI Q) 396 = true) (
    e_let (e_ui I_7 85 (((6 : Int32) + ((6 : Int32) * nI B)) + nI Q).toNatClampNeg ((I_7 85 (((6 : Int32) + ((6 : Int32) * nI B)) + nI Q).toNatClampNeg) + nI N)) (fun (I_10 : e_I) =>
    e_as (e_ix (((6 : Int32) + ((6 : Int32) * nI B)) + nI Q) 396 = true) (
    some ((I_10 85 (((6 : Int32) + ((6 : Int32) * nI B)) + nI Q).toNatClampNeg), I_10))))))))) ?_ ?_ gN gC gM g2 gT gf (fc' := fc) gN' (by omega) (nI (CH B Q + N)) ?_
              · unfold f_X7_shift
                rw [w7, r_b1, r_refused, r_b2, if_pos (by rfl)]
              · intro J _ h85
                rw [v8' J h85, if_pos h6']
                unfold f_X8_shift_84
                rw [r_isRefused, r_b2, if_pos (by rfl)]
              · intro A aC aT aI
                obtain ⟨v, k4, k5, k2, k6, k7⟩ := aC
                have cP : A 24 (6 * B + P) = nI (CH B P) := v.2.2.1 B hB P (by omega)
                have cQ : A 24 (6 * B + Q) = nI (CH B Q) := v.2.2.1 B hB Q (by omega)
                refine wp_e1 (C_chanceAt (g := 23) (by omega) (by omega)) ?_
                refine wp_e1 (C_putChance (g := 23) (by omega) (by omega)) ?_
                refine wp_e1 (C_chanceAt (g := 23) (by omega) (by omega)) ?_
                refine wp_e1 (C_putChance (g := 23) (by omega) (by omega)) ?_
                refine wp_e1 (C_chanceAt (g := 23) (by omega) (by omega)) ?_
                rw [show A (23 + 1) (6 * B + P) = nI (CH B P) from cP, nI_sub h6]
                rw [ui_i (show 6 * B + Q ≠ 6 * B + P by omega), show A (23 + 1) (6 * B + Q) = nI (CH B Q) from cQ, nI_add]
                generalize hD : e_ui (e_ui A (23 + 1) (6 * B + P) (nI (CH B P - N))) (23 + 1) (6 * B + Q) (nI (CH B Q + N)) = D
                have d0 : ∀ a i, a ≠ 24 → D a i = A a i := fun a i z => by rw [← hD, ui_a z, ui_a z]
                have d24 : ∀ x, x < c → ∀ e, e < 6 → D 24 (6 * x + e) = nI (shC CH B P Q N x e) := fun x hx e he => by
                  rw [← hD]
                  unfold shC
                  by_cases z : x = B
                  · subst z
                    rw [if_pos rfl]
                    by_cases y : e = Q
                    · subst y
                      rw [if_pos rfl]
                      exact ui_s
                    · rw [if_neg y]
                      by_cases y2 : e = P
                      · subst y2
                        rw [if_pos rfl]
                        exact (ui_i (show 6 * x + e ≠ 6 * x + Q by omega)).trans ui_s
                      · rw [if_neg y2]
                        exact (ui_i (show 6 * x + e ≠ 6 * x + Q by omega)).trans ((ui_i (show 6 * x + e ≠ 6 * x + P by omega)).trans (v.2.2.1 x hx e he))
                  · rw [if_neg z]
                    exact (ui_i (show 6 * x + e ≠ 6 * B + Q by omega)).trans ((ui_i (show 6 * x + e ≠ 6 * B + P by omega)).trans (v.2.2.1 x hx e he))
                have dQ : D (23 + 1) (6 * B + Q) = nI (CH B Q + N) := by rw [← hD]; exact ui_s
                refine wp_some ⟨dQ, fun a i z _ _ _ => d0 a i (by omega), ⟨⟨(d0 23 0 (by decide)).trans v.1, ⟨(d0 25 0 (by decide)).trans v.2.1.1, (d0 25 1 (by decide)).trans v.2.1.2.1, (d0 25 2 (by decide)).trans v.2.1.2.2.1, (d0 25 3 (by decide)).trans v.2.1.2.2.2.1, (d0 25 4 (by decide)).trans v.2.1.2.2.2.2⟩, d24, fun x1 hx1 => ⟨(d0 26 _ (by decide)).trans (v.2.2.2 x1 hx1).1, (v.2.2.2 x1 hx1).2⟩⟩, (d0 23 4 (by decide)).trans k4, (d0 23 5 (by decide)).trans k5, (d0 23 2 (by decide)).trans k2, (d0 23 6 (by decide)).trans k6, (d0 23 7 (by decide)).trans k7⟩, c_T_fr (fun i => d0 13 i (by decide)) (fun i => d0 14 i (by decide)) aT, fun E bM b85 => ?_⟩
                obtain ⟨mv, mo, m72, m73, m70, m71, m75⟩ := bM
                have eP : E 85 (6 + 6 * B + P) = nI (CH B P) := mv.2.2.2.2 B hB P (by omega)
                have eQ : E 85 (6 + 6 * B + Q) = nI (CH B Q) := mv.2.2.2.2 B hB Q (by omega)
                rw [ixp, ixq]
                refine wp_as (nI_ix (by omega) (by omega)) (wp_as (nI_ix (by omega) (by omega)) (wp_let (wp_as (nI_ix (by omega) (by omega)) (wp_as (nI_ix (by omega) (by omega)) (wp_let (wp_as (nI_ix (by omega) (by omega)) (wp_some ?_)))))))
                rw [nI_clamp (n := 6 + 6 * B + P) (by omega), nI_clamp (n := 6 + 6 * B + Q) (by omega), eP, nI_sub h6, ui_i (show 6 + 6 * B + Q ≠ 6 + 6 * B + P by omega), eQ, nI_add]
                generalize hF : e_ui (e_ui E 85 (6 + 6 * B + P) (nI (CH B P - N))) 85 (6 + 6 * B + Q) (nI (CH B Q + N)) = F
                have f0 : ∀ a i, a ≠ 85 → F a i = E a i := fun a i z => by rw [← hF, ui_a z, ui_a z]
                have o : ∀ i, i < 6 ∨ 60 ≤ i → F 85 i = E 85 i := fun i hi => by rw [← hF, ui_i (show i ≠ 6 + 6 * B + Q by omega), ui_i (show i ≠ 6 + 6 * B + P by omega)]
                have f85 : ∀ x, x < c → ∀ e, e < 6 → F 85 (6 + 6 * x + e) = nI (shC CH B P Q N x e) := fun x hx e he => by
                  rw [← hF]
                  unfold shC
                  by_cases z : x = B
                  · subst z
                    rw [if_pos rfl]
                    by_cases y : e = Q
                    · subst y
                      rw [if_pos rfl]
                      exact ui_s
                    · rw [if_neg y]
                      by_cases y2 : e = P
                      · subst y2
                        rw [if_pos rfl]
                        exact (ui_i (show 6 + 6 * x + e ≠ 6 + 6 * x + Q by omega)).trans ui_s
                      · rw [if_neg y2]
                        exact (ui_i (show 6 + 6 * x + e ≠ 6 + 6 * x + Q by omega)).trans ((ui_i (show 6 + 6 * x + e ≠ 6 + 6 * x + P by omega)).trans (mv.2.2.2.2 x hx e he))
                  · rw [if_neg z]
                    exact (ui_i (show 6 + 6 * x + e ≠ 6 + 6 * B + Q by omega)).trans ((ui_i (show 6 + 6 * x + e ≠ 6 + 6 * B + P by omega)).trans (mv.2.2.2.2 x hx e he))
                have fQ : F 85 (6 + 6 * B + Q) = nI (CH B Q + N) := by rw [← hF]; exact ui_s
                refine ⟨fQ, f0, ⟨⟨(o 0 (by omega)).trans mv.1, ⟨(o 1 (by omega)).trans mv.2.1.1, (o 2 (by omega)).trans mv.2.1.2.1, (o 3 (by omega)).trans mv.2.1.2.2⟩, (o 4 (by omega)).trans mv.2.2.1, (o 5 (by omega)).trans mv.2.2.2.1, f85⟩, fun i hi => (o _ (by omega)).trans (mo i hi), (o 72 (by omega)).trans m72, (o 73 (by omega)).trans m73, (o 70 (by omega)).trans m70, (o 71 (by omega)).trans m71, (o 75 (by omega)).trans m75⟩, ?_, o 0 (by omega)⟩
                obtain ⟨g1, g3, gl⟩ := g2
                refine ⟨?_, ?_, fun j hj => ?_⟩
                · show D 23 1 = F 85 69
                  rw [d0 23 1 (by decide), o 69 (by omega), b85, aI 23 1 (by decide) (by decide)]
                  exact g1
                · show D 23 3 = F 85 74
                  rw [d0 23 3 (by decide), o 74 (by omega), b85, aI 23 3 (by decide) (by decide)]
                  exact g3
                · refine r_note_congr (fun i hi => ?_) (fun i hi => ?_) (gl j hj)
                  · show D 27 _ = _
                    rw [d0 27 _ (by decide), aI 27 _ (by decide) (by decide)]
                  · show F 85 _ = _
                    rw [o _ (by omega), b85]
            · have h6' : ¬ nI (CH B P) ≥ nI N := fun z => h6 ((nI_leI (by omega) (by omega)).mp z)
              rw [if_neg h6'] at w7
              refine bad 5 (by decide) (by decide) w7 ?_
              rw [v8' (r_R7 I 5) (fun i => rfl), if_neg h6']
        · rw [if_neg h4] at w7
          refine bad 2 (by decide) (by decide) w7 ?_
          rw [w8 (r_R7 I 2) (fun i => rfl)]
          unfold f_X8_shift_31
          rw [r_in, if_neg h4, r_b1, r_unless_, if_neg (by decide), if_pos rfl, r_b1, if_neg (by decide)]
      · refine bad 1 (by decide) (by decide) ?_ ?_
        · unfold f_X7_troubleOfShift f_X7_troubleOfShift_25
          rw [r_batter_has, m1, if_pos h1, r_b1, if_neg (by decide), t_hit, if_pos h2, r_b1, if_neg (by decide), t_hit, if_neg h3, r_b1, if_neg (fun n => n rfl)]
        · unfold f_X8_shift f_X8_shift_30
          rw [hb8 (r_R7 I 1) b (fun i => rfl), if_pos h1, r_b1, if_neg (by decide), r_in, if_pos h2, r_b1, if_neg (by decide), r_in, if_neg h3, r_b1, if_pos rfl, z31]
    · refine bad 1 (by decide) (by decide) ?_ ?_
      · unfold f_X7_troubleOfShift f_X7_troubleOfShift_25
        rw [r_batter_has, m1, if_pos h1, r_b1, if_neg (by decide), t_hit, if_neg h2, r_b1, if_pos rfl]
      · unfold f_X8_shift f_X8_shift_30
        rw [hb8 (r_R7 I 1) b (fun i => rfl), if_pos h1, r_b1, if_neg (by decide), r_in, if_neg h2, r_b1, if_pos rfl, z31]
  · refine bad 1 (by decide) (by decide) ?_ ?_
    · unfold f_X7_troubleOfShift f_X7_troubleOfShift_25
      rw [r_batter_has, m1, if_neg h1, r_b1, if_pos rfl]
    · unfold f_X8_shift f_X8_shift_30
      rw [hb8 (r_R7 I 1) b (fun i => rfl), if_neg h1, r_b1, if_pos rfl, z31]
