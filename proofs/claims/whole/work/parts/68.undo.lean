-- undo
theorem C_back {I : e_I} {T C : Nat} (h1 : I 9 1 = nI T) (hT : T < 10) (h2 : I 9 2 = nI C) (hC : C ≤ 10) (hC0 : 0 < C) : wp (f_X4_bringBack 23 I) (fun J => (∀ a i, ¬ (23 ≤ a ∧ a ≤ 27) → ¬ (a = 9 ∧ (i = 1 ∨ i = 2)) → J a i = I a i) ∧ J 9 1 = nI ((T + 9) % 10) ∧ J 9 2 = nI (C - 1) ∧ cpF I J 23 (33 + 5 * ((T + 9) % 10))) := by
  have tl : (T + 9) % 10 < 10 := Nat.mod_lt _ (by decide)
  have fin : ∀ x, x = (T + 9) % 10 → wp (f_X4_bringBack_27 23 (nI x) I) (fun J => (∀ a i, ¬ (23 ≤ a ∧ a ≤ 27) → ¬ (a = 9 ∧ (i = 1 ∨ i = 2)) → J a i = I a i) ∧ J 9 1 = nI ((T + 9) % 10) ∧ J 9 2 = nI (C - 1) ∧ cpF I J 23 (33 + 5 * ((T + 9) % 10))) := fun x hx => by
    subst hx
    generalize hU : (T + 9) % 10 = U at *
    unfold f_X4_bringBack_27
    refine wp_let (wp_let ?_)
    have e2 : e_ui I 9 1 (nI U) 9 2 = nI C := (ui_i (show (2 : Nat) ≠ 1 by decide)).trans h2
    have e3 : nI C - 1 = nI (C - 1) := nI_sub (b := 1) hC0
    rw [e2, e3]
    generalize hD : e_ui (e_ui I 9 1 (nI U)) 9 2 (nI (C - 1)) = D
    have d0 : ∀ a i, a ≠ 9 → D a i = I a i := fun a i z => by rw [← hD, ui_a z, ui_a z]
    have d9 : ∀ i, i ≠ 1 → i ≠ 2 → D 9 i = I 9 i := fun i x y => by rw [← hD, ui_i y, ui_i x]
    have d1 : D 9 1 = nI U := by rw [← hD, ui_i (show (1 : Nat) ≠ 2 by decide)]; exact ui_s
    have d2 : D 9 2 = nI (C - 1) := by rw [← hD]; exact ui_s
    rw [d1, eK_nI tl]
    refine wp_as (nI_ix tl (by omega)) (wp_c1 (C_copy (g := 23) (g1 := 33 + 5 * U) (by omega)) (fun J hJ => wp_some ?_))
    obtain ⟨j1, j2⟩ := hJ
    refine ⟨fun a i x y => ?_, ?_, ?_, fun i hi => ?_, fun k hk => ?_, fun k hk => ?_, fun k hk => ?_, fun k hk => ?_⟩
    · rw [j1 a i x]
      by_cases z : a = 9
      · subst z
        exact d9 i (fun q => y ⟨rfl, Or.inl q⟩) (fun q => y ⟨rfl, Or.inr q⟩)
      · exact d0 a i z
    · exact (j1 9 1 (by omega)).trans d1
    · exact (j1 9 2 (by omega)).trans d2
    · exact (j2.1 i hi).trans (d0 _ i (by omega))
    · exact (j2.2.1 k hk).trans (d0 _ k (by omega))
    · exact (j2.2.2.1 k hk).trans (d0 _ k (by omega))
    · exact (j2.2.2.2.1 k hk).trans (d0 _ k (by omega))
    · exact (j2.2.2.2.2 k hk).trans (d0 _ k (by omega))
  unfold f_X4_bringBack
  rw [h2, h1]
  refine wp_t (nI_n (b := 0) (by omega) (by omega) (by decide)) ?_
  by_cases q : T = 0
  · subst q
    exact wp_t (by decide) (fin 9 rfl)
  · refine wp_f (nI_nle (by omega) (by omega)) ?_
    have e : nI T - 1 = nI (T - 1) := nI_sub (b := 1) (by omega)
    rw [e]
    exact fin (T - 1) (by omega)
theorem past_pop {I I2 : e_I} {t T C : Nat} (old : r_past I t) (h1 : I 9 1 = nI T) (hT : T < 10) (h2 : I 9 2 = nI C) (hC : C ≤ 10) (hC0 : 0 < C) (n1 : I2 9 1 = nI ((T + 9) % 10)) (n2 : I2 9 2 = nI (C - 1)) (n33 : I2 83 33 = nI (C - 1)) (oth : ∀ a, 33 ≤ a → a ≤ 82 → ∀ i, I2 a i = I a i) (m96 : ∀ i, I2 96 i = I 96 i) : r_past I2 t := by
  obtain ⟨_, b6⟩ := old
  have tl : (T + 9) % 10 < 10 := Nat.mod_lt _ (by decide)
  refine ⟨⟨?_, ?_, ?_, ?_, ?_⟩, fun j hj g hg => ?_⟩
  · rw [n2, n33]
  · rw [n2]
    exact nI_pos' (by omega)
  · rw [n2]
    exact nI_le (b := 10) (by omega) (by decide)
  · rw [n1]
    exact nI_pos' (by omega)
  · rw [n1]
    exact nI_le (b := 9) (by omega) (by decide)
  · rw [n2, nI_r (by omega)] at hj
    rw [n1, nI_r (by omega)] at hg
    rw [n2, nI_r (by omega)]
    have hjC : j + 1 < r_n (I 9 2) := by
      rw [h2, nI_r (by omega)]
      omega
    have eg : g = 33 + 5 * ((r_n (I 9 1) + 9 - (j + 1)) % 10) := by
      rw [h1, nI_r (by omega)]
      omega
    have k := b6 (j + 1) hjC g eg
    rw [h1, nI_r (by omega)] at eg
    have gl : 33 ≤ g ∧ g + 4 ≤ 82 := by
      have := Nat.mod_lt (T + 9 - (j + 1)) (show 0 < 10 by decide)
      omega
    rw [h2, nI_r (by omega)] at k
    refine r_GR_congr (fun i _ => oth _ (by omega) (by omega) i) (fun i _ => oth _ (by omega) (by omega) i) (fun i _ => oth _ (by omega) (by omega) i) (fun i _ => oth _ (by omega) (by omega) i) (fun i _ => oth _ (by omega) (by omega) i) (fun i hi => ?_) k
    rw [m96]
    congr 2
    omega
theorem cnt_pop {I I2 : e_I} {T C : Nat} (old : r_cnt I) (h1 : I 9 1 = nI T) (hT : T < 10) (h2 : I 9 2 = nI C) (hC : C ≤ 10) (hC0 : 0 < C) (n1 : I2 9 1 = nI ((T + 9) % 10)) (n2 : I2 9 2 = nI (C - 1)) (oth : ∀ a, 33 ≤ a → a ≤ 82 → I2 a 0 = I a 0) (hn : I2 85 0 = I 85 0) : r_cnt I2 := by
  intro j hj
  have tm : (T + 9) % 10 < 10 := Nat.mod_lt _ (by decide)
  rw [n2, nI_r (by omega)] at hj
  rw [n1, nI_r (by omega), hn]
  have k := old (j + 1) (by rw [h2, nI_r (by omega)]; omega)
  rw [h1, nI_r (by omega)] at k
  rw [show ((T + 9) % 10 + 9 - j) % 10 = (T + 9 - (j + 1)) % 10 by omega]
  have gl := Nat.mod_lt (T + 9 - (j + 1)) (show 0 < 10 by decide)
  rw [oth _ (by omega) (by omega)]
  exact k
theorem T_undo (t : Nat) (ht : t < 600) : ST_undo (Rl t) (Rl (t + 1)) := by
  intro I L h
  have hx := Rl_hx h
  obtain ⟨T, C, p1, hT10, p2, hC, p33⟩ := past_TC h.2.2.2.1
  have bad : ∀ x, x ≠ 0 → x ≠ 4 → f_X7_undo I = f_X7_undo_27 x I → f_X8_undo (r_R7 I x) = f_X8_undo_24 x (r_R7 I x) → ∃ r I1 I2, f_X7_undo I = some (r, I1) ∧ f_X8_undo I1 = some (r, I2) ∧ Rl (t + 1) I2 L := fun x h0 h4 e7 e8 => by
    refine bad_1 (v := x) (o7 := f_X7_undo I) (f8 := f_X8_undo) h h4 ?_ ?_
    · rw [e7]
      unfold f_X7_undo_27
      rw [r_refused, r_b2, r_b_n h0]
      rfl
    · rw [e8]
      unfold f_X8_undo_24
      rw [r_isRefused, r_b2, r_b_n h0]
      rfl
  by_cases hx0 : I 83 6 = 0
  · refine bad 1 (by decide) (by decide) ?_ ?_
    · unfold f_X7_undo
      rw [hx, r_b1, if_neg (fun n => n hx0)]
    · unfold f_X8_undo
      rw [if_neg (fun n => n (show r_R7 I 1 83 6 = 0 from hx0))]
  · by_cases hC0 : C = 0
    · subst hC0
      refine bad 5 (by decide) (by decide) ?_ ?_
      · unfold f_X7_undo
        rw [hx, r_b1, if_pos hx0, p2, if_pos (by decide)]
      · unfold f_X8_undo
        rw [if_pos (show r_R7 I 5 83 6 ≠ 0 from hx0), if_neg (fun n => n (show r_R7 I 5 83 33 = 0 from p33))]
    · have w7 : f_X7_undo I = f_X7_undo_27 0 I := by
        unfold f_X7_undo
        rw [hx, r_b1, if_pos hx0, p2, if_neg (show ¬ nI C ≤ 0 from nI_nle (by omega) (by omega))]
      have w8 : ∀ J : e_I, J 83 6 = I 83 6 → J 83 33 = I 83 33 → f_X8_undo J = f_X8_undo_24 0 J := fun J e1 e2 => by
        unfold f_X8_undo
        rw [if_pos (show J 83 6 ≠ 0 from by rw [e1]; exact hx0), e2, p33, if_pos (show nI C ≠ 0 from nI_n (b := 0) hC0 (by omega) (by decide))]
      -- the game as it was
      have tl : (T + 9) % 10 < 10 := Nat.mod_lt _ (by decide)
      have was := h.2.2.2.1.2 0 (by rw [p2, nI_r (by omega)]; omega) (33 + 5 * ((T + 9) % 10)) (by rw [p1, nI_r (by omega)]; omega)
      rw [p2, nI_r (by omega)] at was
      refine st_1 (o7 := f_X7_undo I) (f8 := f_X8_undo) ?_
      rw [w7]
      unfold f_X7_undo_27
      refine wp_e2 (r_refused 0 I) (wp_t rfl ?_)
      refine wp_c1 (C_back (I := r_R7 I 0) p1 hT10 p2 hC (by omega)) (fun A hA => ?_)
      obtain ⟨a1, a2, a3, a4⟩ := hA
      -- the rules of that game
      have gr23 : r_GR (A 23) (A 24) (A 25) (A 26) (A 27) (I 96) (396 * (C - 1)) (100 * t) := by
        refine r_GR_congr (fun i hi => ?_) (fun k hk => ?_) (fun k hk => ?_) (fun k hk => ?_) (fun k hk => ?_) (fun k hk => rfl) was
        · exact (a4.1 i hi).trans (ui_a (by omega))
        · exact (a4.2.1 k hk).trans (ui_a (by omega))
        · exact (a4.2.2.1 k hk).trans (ui_a (by omega))
        · exact (a4.2.2.2.1 k hk).trans (ui_a (by omega))
        · exact (a4.2.2.2.2 k hk).trans (ui_a (by omega))
      obtain ⟨_, _, ⟨q1, q2, q3, q4, q5, q6, _⟩, _⟩ := id gr23
      obtain ⟨e0, e0'⟩ := nI_rn (n := 2) (Int32.le_trans (show (0 : Int32) ≤ 1 by decide) q1) q2 rfl
      obtain ⟨e1, e1'⟩ := nI_rn (n := 3) (Int32.le_trans (show (0 : Int32) ≤ 2 by decide) q3) q4 rfl
      obtain ⟨e2, e2'⟩ := nI_rn (n := 1) q5 q6 rfl
      have b0 : 1 ≤ r_n (A 25 0) := by
        rw [e0] at q1
        exact (nI_leI (a := 1) (by decide) (by omega)).mp q1
      have b1 : 2 ≤ r_n (A 25 1) := by
        rw [e1] at q3
        exact (nI_leI (a := 2) (by decide) (by omega)).mp q3
      have rv : RV (r_n (A 25 0)) (r_n (A 25 1)) (r_n (A 25 2)) := ⟨⟨b0, e0'⟩, ⟨b1, e1'⟩, e2'⟩
      have fit : wp (f_X7_fitMoves A) (fun J => fr c_S A J ∧ c_T J (r_n (A 25 0)) (r_n (A 25 1)) (r_n (A 25 2))) := by
        unfold f_X7_fitMoves
        refine wp_e1 (C_ruledAt (g := 23) (x := 0) (by decide)) (wp_e1 (C_ruledAt (g := 23) (x := 1) (by decide)) (wp_e1 (C_ruledAt (g := 23) (x := 2) (by decide)) ?_))
        have f := c_fits (I := A) rv
        rw [← e0, ← e1, ← e2] at f
        exact wp_c1 f (fun J hJ => wp_some hJ)
      refine wp_c1 fit (fun F hF => wp_some ?_)
      obtain ⟨f0, fT⟩ := hF
      have fA : ∀ a i, a ≠ 12 → a ≠ 13 → a ≠ 14 → F a i = A a i := fun a i x y z => f0 a i (fun q => by rcases q with q | q | q; exact x q; exact y q; exact z q)
      have f9 : F 9 2 = nI (C - 1) := (fA 9 2 (by decide) (by decide) (by decide)).trans a3
      have fo : ∀ a i, ¬ (23 ≤ a ∧ a ≤ 27) → ¬ (a = 9 ∧ (i = 1 ∨ i = 2)) → a ≠ 12 → a ≠ 13 → a ≠ 14 → F a i = r_R7 I 0 a i := fun a i x y z1 z2 z3 => (fA a i z1 z2 z3).trans (a1 a i x y)
      show wp (f_X8_undo F) _
      rw [w8 F (fo 83 6 (by omega) (by omega) (by decide) (by decide) (by decide)) (fo 83 33 (by omega) (by omega) (by decide) (by decide) (by decide))]
      unfold f_X8_undo_24
      refine wp_e2 (r_isRefused 0 F) (wp_t rfl (wp_let ?_))
      have g33 : r_R8 F 0 83 33 = nI C := (fo 83 33 (by omega) (by omega) (by decide) (by decide) (by decide)).trans p33
      have e3 : nI C - 1 = nI (C - 1) := nI_sub (b := 1) (by omega)
      rw [g33, e3]
      generalize hG : e_ui (r_R8 F 0) 83 33 (nI (C - 1)) = G
      have g0 : ∀ a i, ¬ (a = 83 ∧ i = 33) → G a i = r_R8 F 0 a i := fun a i z => by
        rw [← hG]
        by_cases y : a = 83
        · subst y
          rw [ui_i (fun q => z ⟨rfl, q⟩)]
        · rw [ui_a y]
      have g1 : G 83 33 = nI (C - 1) := by rw [← hG]; exact ui_s
      have e4 : (396 : Int32) * nI (C - 1) = nI (396 * (C - 1)) := by rw [n396, nI_mul]
      have l85 : e_ln 85 = 396 := rfl
      have l96 : e_ln 96 = 3960 := rfl
      rw [g1, e4]
      refine wp_c1 (M_lays (a0 := 85) (a2 := 96) (x := 0) (y := 396 * (C - 1)) (n := 396) (by decide) (by rw [l85]; decide) (by rw [l96]; omega) (by decide) (by omega)) (fun K hK => wp_some ?_)
      obtain ⟨k1, k2⟩ := hK
      have kG : ∀ a i, a ≠ 85 → K a i = G a i := fun a i z => k1 a i (fun q => z q.1)
      have k33 : K 83 33 = nI (C - 1) := (kG 83 33 (by decide)).trans g1
      refine ⟨?_, ?_⟩
      · show K 83 33 = F 9 2
        rw [k33, f9]
      · have kF : ∀ a i, a ≠ 85 → a ≠ 83 → K a i = F a i := fun a i x y => by
          rw [kG a i x, g0 a i (by omega)]
          unfold r_R8
          rw [ui_a y, ui_a y, ui_a y]
        have k23 : ∀ a, 23 ≤ a → a ≤ 27 → K a = A a := fun a x y => funext fun i => (kF a i (by omega) (by omega)).trans (fA a i (by omega) (by omega) (by omega))
        have k96 : ∀ i, K 96 i = I 96 i := fun i => (kF 96 i (by decide) (by decide)).trans (fo 96 i (by omega) (by omega) (by decide) (by decide) (by decide))
        have k85 : ∀ k, k < 396 → K 85 (0 + k) = I 96 (396 * (C - 1) + k) := fun k hk => by
          rw [k2 k hk, g0 96 _ (by omega)]
          exact fo 96 _ (by omega) (by omega) (by decide) (by decide) (by decide)
        have gr : r_GR (K 23) (K 24) (K 25) (K 26) (K 27) (K 85) 0 (100 * (t + 1)) := by
          rw [k23 23 (by decide) (by decide), k23 24 (by decide) (by decide), k23 25 (by decide) (by decide), k23 26 (by decide) (by decide), k23 27 (by decide) (by decide)]
          exact r_GR_mono (Nat.mul_le_mul_left 100 (Nat.le_succ t)) (r_GR_congr (fun _ _ => rfl) (fun _ _ => rfl) (fun _ _ => rfl) (fun _ _ => rfl) (fun _ _ => rfl) k85 gr23)
        have cnt0 := h.2.2.2.2.2.2.2 0 (by rw [p2, nI_r (by omega)]; omega)
        rw [p1, nI_r (by omega), Nat.sub_zero] at cnt0
        have hn : K 85 0 = I 85 0 := by
          have z := k85 0 (by decide)
          have y : (I (33 + 5 * ((T + 9) % 10)) 0 = I 96 (396 * (C - 1 - 0))) := was.1.1
          exact (z.trans y.symm).trans cnt0
        have o82 : ∀ a, 33 ≤ a → a ≤ 82 → ∀ i, K a i = I a i := fun a x y i => by
          rw [kF a i (by omega) (by omega), fo a i (by omega) (by omega) (by omega) (by omega) (by omega)]
          unfold r_R7
          rw [ui_a (show a ≠ 0 by omega)]
        have n1 : K 9 1 = nI ((T + 9) % 10) := (kF 9 1 (by decide) (by decide)).trans ((fA 9 1 (by decide) (by decide) (by decide)).trans a2)
        have n2 : K 9 2 = nI (C - 1) := (kF 9 2 (by decide) (by decide)).trans f9
        refine Rl_told (T := T) (C := C) (A := A) (I1 := F) (B := G) h hx0 (fun a i _ _ n2 n3 => a1 a i n2 (fun z => n3 z.1)) (fun a i l x y z => fA a i (fun q => by
          subst q
          cases (show false = true from l)) y z) (fun a i _ _ _ n => g0 a i n) (fun a i _ x => kG a i x) gr (r_past_mono (past_pop h.2.2.2.1 p1 hT10 p2 hC (by omega) n1 n2 k33 o82 k96)) ?_ hn ?_ h.2.2.2.2.1.2 (cnt_pop h.2.2.2.2.2.2.2 p1 hT10 p2 hC (by omega) n1 n2 (fun a x y => o82 a x y 0) hn)
        · show c_T K (r_n (K 25 0)) (r_n (K 25 1)) (r_n (K 25 2))
          rw [k23 25 (by decide) (by decide)]
          exact c_T_fr (fun i => kF 13 i (by decide) (by decide)) (fun i => kF 14 i (by decide) (by decide)) fT
        · have e5 : K 11 5 = F 11 5 := kF 11 5 (by decide) (by decide)
          have e6 : F 11 5 = r_R7 I 0 11 5 := fo 11 5 (by omega) (by omega) (by decide) (by decide) (by decide)
          exact (e5.trans e6).trans h.2.2.2.2.1.1
