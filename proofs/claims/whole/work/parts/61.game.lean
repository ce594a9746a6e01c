-- A GAME as numbers, in the class's memory I and in the model's J
def GN (c s d f sl ti : Nat) (CH : Nat → Nat → Nat) (O : Nat → Nat) (b st n w : Nat) : Prop := NV c s d f sl ti CH ∧ (∀ i, i < c → O i < c) ∧ (∀ i j, i < c → j < c → O i = O j → i = j) ∧ b < c ∧ st < 24 ∧ n ≤ 40 ∧ w ≤ 39
def GC (I : e_I) (g c s d f sl ti : Nat) (CH : Nat → Nat → Nat) (O : Nat → Nat) (b fc st n w : Nat) : Prop := CV I g c s d f sl ti CH O ∧ I g 4 = nI b ∧ I g 5 = nI fc ∧ I g 2 = nI st ∧ I g 6 = nI n ∧ I g 7 = nI w
def GM (J : e_I) (c s d f sl ti : Nat) (CH : Nat → Nat → Nat) (O : Nat → Nat) (b fc st n : Nat) : Prop := MV J c s d f sl ti CH ∧ (∀ i, i < c → J 85 (60 + i) = nI (O i)) ∧ J 85 72 = nI b ∧ J 85 73 = nI fc ∧ J 85 70 = nI (st % 8) ∧ J 85 71 = nI (st / 8) ∧ J 85 75 = nI n
def G2 (I J : e_I) (g n w : Nat) : Prop := I g 1 = J 85 69 ∧ I g 3 = J 85 74 ∧ ∀ j, j < n → r_note (I (g + 4)) (J 85) ((w + 40 - j) % 40) (76 + 8 * (n - 1 - j))
theorem GR_of {I J : e_I} {g c s d f sl ti b fc st n w t : Nat} {CH : Nat → Nat → Nat} {O : Nat → Nat} (hN : GN c s d f sl ti CH O b st n w) (hC : GC I g c s d f sl ti CH O b fc st n w) (hM : GM J c s d f sl ti CH O b fc st n) (h2 : G2 I J g n w) (hf : fc ≤ t) (hf2 : fc < 2 ^ 30) : r_GR (I g) (I (g + 1)) (I (g + 2)) (I (g + 3)) (I (g + 4)) (J 85) 0 t := by
  obtain ⟨⟨⟨c0, c9⟩, ⟨⟨s1, s2⟩, ⟨d1, d2⟩, f1⟩, sl1, ⟨t1, t2⟩, h20⟩, hO, hinj, hb, hst, hn, hw⟩ := hN
  obtain ⟨⟨v0, ⟨r0, r1, r2, r3, r4⟩, vc, vo⟩, k4, k5, k2, k6, k7⟩ := hC
  obtain ⟨⟨m0, ⟨m1, m2, m3⟩, m4, m5, mc⟩, mo, m72, m73, m70, m71, m75⟩ := hM
  obtain ⟨e1, e3, hl⟩ := h2
  have z : r_n (J 85 0) = c := by rw [m0, nI_r (by omega)]
  have ro : ∀ k, k < 5 → I (g + 2) k = J 85 (1 + k) := fun k hk => by
    have cc : k = 0 ∨ k = 1 ∨ k = 2 ∨ k = 3 ∨ k = 4 := by omega
    rcases cc with rfl | rfl | rfl | rfl | rfl
    · exact r0.trans m1.symm
    · exact r1.trans m2.symm
    · exact r2.trans m3.symm
    · exact r3.trans m4.symm
    · exact r4.trans m5.symm
  unfold r_GR
  simp only [Nat.zero_add]
  refine ⟨⟨v0.trans m0.symm, ?_, ?_⟩, ro, ?_, ?_, ?_, ?_, ?_, e1, ?_, ?_, ?_, e3, ?_, ?_⟩
  · rw [m0]
    exact nI_le (a := 1) c0 (by omega)
  · rw [m0]
    exact nI_le (b := 9) c9 (by decide)
  · rw [r0, r1, r2, r3, r4]
    exact ⟨nI_le (a := 1) s1 (by omega), nI_le (b := 2) s2 (by decide), nI_le (a := 2) d1 (by omega), nI_le (b := 3) d2 (by decide), nI_pos' (by omega), nI_le (b := 1) f1 (by decide), nI_pos' (by omega), nI_le (b := 20) sl1 (by decide), nI_le (a := 1) t1 (by omega), nI_le (b := 99) t2 (by decide)⟩
  · intro k hk
    rw [z] at hk
    have e : 6 * (k / 6) + k % 6 = k := by omega
    have a := vc (k / 6) (by omega) (k % 6) (by omega)
    have b := mc (k / 6) (by omega) (k % 6) (by omega)
    rw [e] at a
    rw [show 6 + 6 * (k / 6) + k % 6 = 6 + k by omega] at b
    exact a.trans b.symm
  · intro b hb
    rw [z] at hb
    have l : ∀ e, e < 6 → CH b e ≤ 20 := fun e he => CH_le (h20 b hb) he
    refine ⟨fun k hk => ?_, ?_⟩
    · rw [vc b hb k hk]
      exact ⟨nI_pos' (by have := l k hk; omega), nI_le (b := 20) (l k hk) (by decide)⟩
    · have e0 : I (g + 1) (6 * b) = nI (CH b 0) := vc b hb 0 (by decide)
      rw [e0, vc b hb 1 (by decide), vc b hb 2 (by decide), vc b hb 3 (by decide), vc b hb 4 (by decide), vc b hb 5 (by decide), nI_add, nI_add, nI_add, nI_add, nI_add]
      have e : hs (CH b) 6 = 0 + CH b 0 + CH b 1 + CH b 2 + CH b 3 + CH b 4 + CH b 5 := rfl
      have k := h20 b hb
      rw [e] at k
      rw [show CH b 0 + CH b 1 + CH b 2 + CH b 3 + CH b 4 + CH b 5 = 20 by omega]
      rfl
  · intro k hk
    rw [z] at hk
    rw [(vo k hk).1, mo k hk, m0]
    exact ⟨rfl, nI_pos' (by have := hO k hk; omega), nI_lt (hO k hk) (by omega)⟩
  · intro i k hi hk e
    rw [z] at hi hk
    rw [(vo i hi).1, (vo k hk).1] at e
    exact hinj i k hi hk ((nI_eq (by have := hO i hi; omega) (by have := hO k hk; omega)).mp e)
  · rw [m70, m71, k2]
    refine ⟨nI_pos' (by omega), nI_le (b := 7) (by omega) (by decide), nI_pos' (by omega), nI_le (b := 2) (by omega) (by decide), ?_⟩
    rw [n8, nI_mul, nI_add]
    congr 1
    omega
  · rw [k4, m72, m0]
    exact ⟨rfl, nI_pos' (by omega), nI_lt hb (by omega)⟩
  · rw [k5, m73, nI_r (by omega)]
    exact ⟨rfl, nI_pos' (by omega), hf⟩
  · rw [k6, k7, m75]
    exact ⟨rfl, nI_pos' (by omega), nI_le (b := 40) hn (by decide), nI_pos' (by omega), nI_le (b := 39) hw (by decide)⟩
  · rw [k6, k7, nI_r (by omega), nI_r (by omega)]
    exact hl
theorem GR_to {I J : e_I} {g t : Nat} (h85 : 85 < g ∨ g + 4 < 85) (h : r_GR (I g) (I (g + 1)) (I (g + 2)) (I (g + 3)) (I (g + 4)) (J 85) 0 t) (hT : c_T I (r_n (I (g + 2) 0)) (r_n (I (g + 2) 1)) (r_n (I (g + 2) 2))) (ht : t ≤ 70000) : ∃ c s d f sl ti CH O b fc st n w, GN c s d f sl ti CH O b st n w ∧ GC I g c s d f sl ti CH O b fc st n w ∧ GM J c s d f sl ti CH O b fc st n ∧ G2 I J g n w ∧ c_T I s d f ∧ fc ≤ t ∧ (s = r_n (I (g + 2) 0) ∧ d = r_n (I (g + 2) 1) ∧ f = r_n (I (g + 2) 2)) := by
  let K : e_I := fun a => if a = 85 then J 85 else I a
  have k85 : K 85 = J 85 := if_pos rfl
  have kI : ∀ a, a ≠ 85 → K a = I a := fun a ha => if_neg ha
  have g0 := kI g (by omega)
  have g1 := kI (g + 1) (by omega)
  have g2 := kI (g + 2) (by omega)
  have g3 := kI (g + 3) (by omega)
  have g4 := kI (g + 4) (by omega)
  have hK : r_GR (K g) (K (g + 1)) (K (g + 2)) (K (g + 3)) (K (g + 4)) (K 85) 0 t := by
    rw [g0, g1, g2, g3, g4, k85]
    exact h
  have hTK : c_T K (r_n (K (g + 2) 0)) (r_n (K (g + 2) 1)) (r_n (K (g + 2) 2)) := by
    rw [g2]
    exact c_T_fr (fun i => by rw [kI 13 (by decide)]) (fun i => by rw [kI 14 (by decide)]) hT
  obtain ⟨c, s, d, f, sl, ti, CH, O, b, p, fc, st, V, _, _, _, _, _, hsdf, hfc, _⟩ := VW_of hK hTK ht
  obtain ⟨n, w, W⟩ := LW_of hK
  obtain ⟨v1, v2, v3, v4, v5, ⟨v6a, v6b, hp, ep⟩, ⟨v7a, v7b, v7⟩, ⟨v8a, v8b, v8c, v8d⟩, v9⟩ := V
  obtain ⟨w1, w2, w3, w4, w5, w6⟩ := W
  rw [g0] at v6a v7a v8a w1 w4
  rw [g4, k85] at w6
  rw [k85] at v6b v7b v8c v8d w2
  rw [g2] at hsdf
  obtain ⟨_, _, _, _, _, _, _, e1, _, _, _, e3, _, _⟩ := h
  refine ⟨c, s, d, f, sl, ti, CH, O, b, fc, st, n, w, ⟨v1, fun i hi => (v4 i hi).2, v5, by rw [← ep]; exact (v4 p hp).2, v8b, w3, w5⟩, ⟨?_, v6a, v7a, v8a, w1, w4⟩, ⟨?_, fun i hi => ?_, v6b, v7b, v8c, v8d, w2⟩, ⟨e1, e3, w6⟩, ?_, hfc, hsdf⟩
  · exact CV_fr (fun i => by rw [g0]) (fun i => by rw [g1]) (fun i => by rw [g2]) (fun i => by rw [g3]) v2
  · exact MV_85 (fun i => by rw [k85]) v3
  · have := (v4 i hi).1
    rwa [k85] at this
  · exact c_T_fr (fun i => by rw [kI 13 (by decide)]) (fun i => by rw [kI 14 (by decide)]) v9
-- an act, told and kept
theorem past_TC {I : e_I} {t : Nat} (h : r_past I t) : ∃ T C, I 9 1 = nI T ∧ T < 10 ∧ I 9 2 = nI C ∧ C ≤ 10 ∧ I 83 33 = nI C := by
  obtain ⟨⟨b1, b2, b3, b4, b5⟩, _⟩ := h
  obtain ⟨x, x'⟩ := nI_rn (n := 10) b2 b3 rfl
  obtain ⟨y, y'⟩ := nI_rn (n := 9) b4 b5 rfl
  exact ⟨_, _, y, by omega, x, x', by rw [← b1]; exact x⟩
theorem r_past_mono {I : e_I} {t : Nat} (h : r_past I t) : r_past I (t + 1) := ⟨h.1, fun j hj g hg => r_GR_mono (Nat.mul_le_mul_left 100 (Nat.le_succ t)) (h.2 j hj g hg)⟩
theorem Rl_told {t T C : Nat} {I I1 I2 A B : e_I} {M : e_L} {L : e_L} (h : Rl t I L) (hx : I 83 6 ≠ 0)
    (hA : ∀ a i, r_live a i = true → ¬ (33 ≤ a ∧ a ≤ 82) → ¬ (23 ≤ a ∧ a ≤ 27) → a ≠ 9 → A a i = r_R7 I 0 a i)
    (h7 : ∀ a i, r_live a i = true → ¬ (23 ≤ a ∧ a ≤ 27) → a ≠ 13 → a ≠ 14 → I1 a i = A a i)
    (hB : ∀ a i, r_live a i = true → a ≠ 85 → a ≠ 96 → ¬ (a = 83 ∧ i = 33) → B a i = r_R8 I1 0 a i)
    (h8 : ∀ a i, r_live a i = true → a ≠ 85 → I2 a i = B a i)
    (gr : r_GR (I2 23) (I2 24) (I2 25) (I2 26) (I2 27) (I2 85) 0 (100 * (t + 1))) (hp : r_past I2 (t + 1)) (hT : c_T I2 (r_n (I2 25 0)) (r_n (I2 25 1)) (r_n (I2 25 2))) (hn : I2 85 0 = I 85 0) (h11 : I2 11 5 = 0) (hz : c_Z M) (hcnt : r_cnt I2) : Rl (t + 1) I2 M := by
  obtain ⟨h1, h2, h3, h4, h5, h6, _⟩ := h
  have go : ∀ a i, r_live a i = true → a ≠ 85 → a ≠ 96 → ¬ (a = 83 ∧ i = 33) → ¬ (33 ≤ a ∧ a ≤ 82) → ¬ (23 ≤ a ∧ a ≤ 27) → a ≠ 9 → a ≠ 13 → a ≠ 14 → I2 a i = r_R8 (r_R7 I 0) 0 a i := fun a i l b1 b2 b3 b4 b5 b6 b7 b8 => by
    rw [h8 a i l b1, hB a i l b1 b2 b3]
    exact R8_congr (by rw [h7 a i l b5 b7 b8, hA a i l b4 b5 b6])
  have x6 : I2 83 6 = I 83 6 := go 83 6 rfl (by decide) (by decide) (by decide) (by decide) (by decide) (by decide) (by decide) (by decide)
  have cell : ∀ a, (∀ i, r_live a i = true) → a ≠ 85 → a ≠ 96 → a ≠ 83 → a ≠ 0 → ¬ (33 ≤ a ∧ a ≤ 82) → ¬ (23 ≤ a ∧ a ≤ 27) → a ≠ 9 → a ≠ 13 → a ≠ 14 → I2 a = I a := fun a l b1 b2 b3 b0 b4 b5 b6 b7 b8 => by
    funext i
    rw [go a i (l i) b1 b2 (fun z => b3 z.1) b4 b5 b6 b7 b8]
    unfold r_R8 r_R7
    rw [ui_a b3, ui_a b3, ui_a b3, ui_a b0]
  refine ⟨?_, ?_, Or.inr ⟨?_, gr⟩, hp, ⟨h11, hz⟩, fun _ => ⟨hT, ?_⟩, fun z => absurd (x6.symm.trans z) hx, hcnt⟩
  · have e8 : I2 0 8 = 0 := go 0 8 rfl (by decide) (by decide) (by decide) (by decide) (by decide) (by decide) (by decide) (by decide)
    have e9 : I2 0 9 = I 0 9 := go 0 9 rfl (by decide) (by decide) (by decide) (by decide) (by decide) (by decide) (by decide) (by decide)
    have d1 : I2 83 1 = 0 := go 83 1 rfl (by decide) (by decide) (by decide) (by decide) (by decide) (by decide) (by decide) (by decide)
    have d2 : I2 83 2 = I 83 2 := go 83 2 rfl (by decide) (by decide) (by decide) (by decide) (by decide) (by decide) (by decide) (by decide)
    have d3 : I2 83 3 = -1 := go 83 3 rfl (by decide) (by decide) (by decide) (by decide) (by decide) (by decide) (by decide) (by decide)
    refine ⟨e8.trans d1.symm, by rw [e9, d2]; exact h1.2.1, fun z => ?_, fun _ => d3⟩
    rw [e8] at z
    exact absurd z (by decide)
  · refine r_tape_of ?_ ?_ (cell 84 (fun _ => rfl) (by decide) (by decide) (by decide) (by decide) (by decide) (by decide) (by decide) (by decide) (by decide)) (cell 5 (fun _ => rfl) (by decide) (by decide) (by decide) (by decide) (by decide) (by decide) (by decide) (by decide) (by decide)) (cell 6 (fun _ => rfl) (by decide) (by decide) (by decide) (by decide) (by decide) (by decide) (by decide) (by decide) (by decide)) h2
    · exact go 1 3 rfl (by decide) (by decide) (by decide) (by decide) (by decide) (by decide) (by decide) (by decide)
    · exact go 83 5 rfl (by decide) (by decide) (by decide) (by decide) (by decide) (by decide) (by decide) (by decide)
  · rw [x6]
    rcases h3 with h3 | h3
    · exact absurd h3.1 hx
    · exact h3.1
  · rw [hn, cell 8 (fun _ => rfl) (by decide) (by decide) (by decide) (by decide) (by decide) (by decide) (by decide) (by decide) (by decide), cell 87 (fun _ => rfl) (by decide) (by decide) (by decide) (by decide) (by decide) (by decide) (by decide) (by decide) (by decide)]
    exact (h6 hx).2
theorem cnt_push {I I2 : e_I} {T C : Nat} (old : r_cnt I) (h1 : I 9 1 = nI T) (hT : T < 10) (h2 : I 9 2 = nI C) (hC : C ≤ 10) (n1 : I2 9 1 = nI ((T + 1) % 10)) (n2 : I2 9 2 = nI (min (C + 1) 10)) (c0 : I2 (33 + 5 * T) 0 = I 85 0) (oth : ∀ a, 33 ≤ a → a ≤ 82 → ¬ (33 + 5 * T ≤ a ∧ a ≤ 33 + 5 * T + 4) → I2 a 0 = I a 0) (hn : I2 85 0 = I 85 0) : r_cnt I2 := by
  intro j hj
  have tm : (T + 1) % 10 < 10 := Nat.mod_lt _ (by decide)
  have c10 : min (C + 1) 10 ≤ 10 := Nat.min_le_right _ _
  rw [n2, nI_r (by omega)] at hj
  rw [n1, nI_r (by omega), hn]
  by_cases q : j = 0
  · subst q
    rw [show ((T + 1) % 10 + 9 - 0) % 10 = T by omega]
    exact c0
  · have k := old (j - 1) (by rw [h2, nI_r (by omega)]; omega)
    rw [h1, nI_r (by omega)] at k
    rw [show ((T + 1) % 10 + 9 - j) % 10 = (T + 9 - (j - 1)) % 10 by omega]
    have gl := Nat.mod_lt (T + 9 - (j - 1)) (show 0 < 10 by decide)
    rw [oth _ (by omega) (by omega) (by omega)]
    exact k
theorem Rl_act {t T C : Nat} {I I1 I2 A B : e_I} {M : e_L} {L : e_L} (h : Rl t I L) (hx : I 83 6 ≠ 0) (p1 : I 9 1 = nI T) (hT10 : T < 10) (p2 : I 9 2 = nI C) (hC : C ≤ 10)
    (hA : fr (kpF T) (r_R7 I 0) A ∧ A 9 1 = nI ((T + 1) % 10) ∧ A 9 2 = nI (min (C + 1) 10) ∧ cpF (r_R7 I 0) A (33 + 5 * T) 23)
    (h7 : ∀ a i, r_live a i = true → ¬ (23 ≤ a ∧ a ≤ 27) → a ≠ 13 → a ≠ 14 → I1 a i = A a i)
    (hB : fr rmF (r_R8 I1 0) B ∧ B 83 33 = nI (min (C + 1) 10) ∧ (∀ k, k < 396 → B 96 (396 * min C 9 + k) = r_R8 I1 0 85 k) ∧ (∀ r, r < min C 9 → ∀ k, k < 396 → B 96 (396 * r + k) = r_R8 I1 0 96 (396 * (r + (if C = 10 then 1 else 0)) + k)))
    (h8 : ∀ a i, r_live a i = true → a ≠ 85 → I2 a i = B a i)
    (gr : r_GR (I2 23) (I2 24) (I2 25) (I2 26) (I2 27) (I2 85) 0 (100 * (t + 1))) (hT : c_T I2 (r_n (I2 25 0)) (r_n (I2 25 1)) (r_n (I2 25 2))) (hn : I2 85 0 = I 85 0) (h11 : I2 11 5 = 0) (hz : c_Z M) : Rl (t + 1) I2 M := by
  obtain ⟨a1, a2, a3, a4⟩ := hA
  obtain ⟨b1, b2, b3, b4⟩ := hB
  have k1 : ∀ a i, r_live a i = true → ¬ (33 ≤ a ∧ a ≤ 82) → ¬ (23 ≤ a ∧ a ≤ 27) → a ≠ 9 → A a i = r_R7 I 0 a i := fun a i _ n1 _ n3 => a1 a i (fun z => by rcases z with z | z <;> omega)
  have k2 : ∀ a i, r_live a i = true → a ≠ 85 → a ≠ 96 → ¬ (a = 83 ∧ i = 33) → B a i = r_R8 I1 0 a i := fun a i _ _ n2 n3 => b1 a i (fun z => by
    rcases z with z | z
    · exact n2 z
    · exact n3 z)
  have cur : r_GR (I 23) (I 24) (I 25) (I 26) (I 27) (I 85) 0 (100 * t) := by
    rcases h.2.2.1 with h3 | h3
    · exact absurd h3.1 hx
    · exact h3.2
  have big : ∀ a, 33 ≤ a → a ≤ 82 → ∀ i, I2 a i = A a i := fun a x y i => by
    rw [h8 a i (r_live_g x y) (by omega), k2 a i (r_live_g x y) (by omega) (by omega) (by omega)]
    unfold r_R8
    rw [ui_a (show a ≠ 83 by omega), ui_a (show a ≠ 83 by omega), ui_a (show a ≠ 83 by omega), h7 a i (r_live_g x y) (by omega) (by omega) (by omega)]
  have nine : ∀ i, i = 1 ∨ i = 2 → I2 9 i = A 9 i := fun i hi => by
    have l : r_live 9 i = true := by
      rcases hi with rfl | rfl <;> rfl
    rw [h8 9 i l (by decide), k2 9 i l (by decide) (by decide) (by omega)]
    exact h7 9 i l (by decide) (by decide) (by decide)
  refine Rl_told (T := T) (C := C) h hx k1 h7 k2 h8 gr (r_past_mono ?_) hT hn h11 hz ?_
  · refine past_push (T := T) (C := C) h.2.2.2.1 cur p1 hT10 p2 hC ((nine 1 (Or.inl rfl)).trans a2) ((nine 2 (Or.inr rfl)).trans a3) ((h8 83 33 rfl (by decide)).trans b2) ⟨fun i hi => ?_, fun i hi => ?_, fun i hi => ?_, fun i hi => ?_, fun i hi => ?_⟩ (fun a x y z i => ?_) (fun k hk => ?_) (fun r hr k hk => ?_)
    · rw [big _ (by omega) (by omega)]
      exact a4.1 i hi
    · rw [big _ (by omega) (by omega)]
      exact a4.2.1 i hi
    · rw [big _ (by omega) (by omega)]
      exact a4.2.2.1 i hi
    · rw [big _ (by omega) (by omega)]
      exact a4.2.2.2.1 i hi
    · rw [big _ (by omega) (by omega)]
      exact a4.2.2.2.2 i hi
    · rw [big a x y, a1 a i (fun q => by rcases q with q | q <;> omega)]
      unfold r_R7
      rw [ui_a (show a ≠ 0 by omega)]
    · rw [h8 96 _ rfl (by decide), b3 k hk]
      show I1 85 k = _
      rw [h7 85 k rfl (by decide) (by decide) (by decide), k1 85 k rfl (by decide) (by decide) (by decide)]
      rfl
    · rw [h8 96 _ rfl (by decide), b4 r hr k hk]
      show I1 96 _ = _
      rw [h7 96 _ rfl (by decide) (by decide) (by decide), k1 96 _ rfl (by decide) (by decide) (by decide)]
      rfl
  · have cf : I 23 0 = I 85 0 := cur.1.1
    refine cnt_push h.2.2.2.2.2.2.2 p1 hT10 p2 hC ((nine 1 (Or.inl rfl)).trans a2) ((nine 2 (Or.inr rfl)).trans a3) ?_ (fun a x y z => ?_) hn
    · rw [big _ (by omega) (by omega), a4.1 0 (by decide)]
      exact cf
    · rw [big a x y, a1 a 0 (fun q => by rcases q with q | q <;> omega)]
      unfold r_R7
      rw [ui_a (show a ≠ 0 by omega)]
