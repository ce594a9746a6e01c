-- PLAY
theorem r_b3 {α β γ δ : Type} (x : α) (y : β) (z : γ) (f : α → β → γ → Option δ) : e_b3 (some (x, y, z)) f = f x y z := rfl
theorem S_plays {N : Nat} {a3 : Int32} (hN : N < 2 ^ 31) : ∀ m i acc n1 n2 B I L J M, i + m = N → m < n1 → m < n2 → B + m ≤ 100000 → TR 23 B I L J M → TO 23 (B + m) I J M (f_X7_play_47 (nI N) a3 (fun (v4_8 : Int32) (I_9 : e_I) (L_10 : e_L) => some (v4_8, I_9, L_10)) n1 acc (nI i) I L) (f_X8_play_58 (nI N) a3 (fun (v4_7 : Int32) (I_8 : e_I) (L_9 : e_L) => some (v4_7, I_8, L_9)) n2 acc (nI i) J M) := by
  intro m
  induction m with
  | zero =>
    intro i acc n1 n2 B I L J M h0 h1 h2 hB h
    obtain ⟨k1, rfl⟩ : ∃ k, n1 = k + 1 := ⟨n1 - 1, by omega⟩
    obtain ⟨k2, rfl⟩ : ∃ k, n2 = k + 1 := ⟨n2 - 1, by omega⟩
    have h0 : i = N := h0
    subst h0
    unfold f_X7_play_47 f_X8_play_58
    have le : nI i ≥ nI i := nI_le (Nat.le_refl i) hN
    rw [if_pos le, if_pos le]
    exact ⟨acc, I, L, J, M, rfl, rfl, h, fr_rfl, fr_rfl, frL_rfl⟩
  | succ m ih =>
    intro i acc n1 n2 B I L J M h0 h1 h2 hB h
    obtain ⟨k1, rfl⟩ : ∃ k, n1 = k + 1 := ⟨n1 - 1, by omega⟩
    obtain ⟨k2, rfl⟩ : ∃ k, n2 = k + 1 := ⟨n2 - 1, by omega⟩
    unfold f_X7_play_47 f_X8_play_58
    have lt : ¬ nI i ≥ nI N := c_ge (by omega) hN
    rw [if_neg lt, if_neg lt]
    obtain ⟨r, I', L', J', M', a1, a2, a4, a5, a6, a7⟩ := S_turn a3 (by decide) (by omega) h
    rw [a1, r_b3, a2, r_b3]
    show TO 23 (B + (m + 1)) I J M (f_X7_play_47 (nI N) a3 _ k1 (acc + r) (nI i + 1) I' L') (f_X8_play_58 (nI N) a3 _ k2 (acc + r) (nI i + 1) J' M')
    rw [nI_1 i, show B + (m + 1) = B + 1 + m by omega]
    exact TO_tr a5 a6 a7 (ih (i + 1) (acc + r) k1 k2 (B + 1) I' L' J' M' (by omega) (by omega) (by omega) (by omega) a4)
def tQ (tx w a q : Int32) : Int32 := if tx = 0 then 1 else if w = 0 then 1 else if 1 ≤ a ∧ a ≤ 2147483646 then (if q = 0 then 2 else 0) else 2
theorem t_play7 {I : e_I} {w a q : Int32} (hx : f_X7_hasText I = some (I 83 6)) : f_X7_troubleOfPlay w a q I = some (tQ (I 83 6) w a q) := by
  unfold f_X7_troubleOfPlay f_X7_troubleOfPlay_11 f_X7_troubleOfPlay_32 f_X7_troubleOfPlay_33 tQ
  rw [hx, r_b1]
  by_cases h1 : I 83 6 = 0
  · rw [if_pos h1, if_pos h1]
  · rw [if_neg h1, if_neg h1]
    by_cases h2 : w = 0
    · rw [if_neg (fun n => n h2), if_pos h2]
    · rw [if_pos h2, if_neg h2, r_within, r_b1]
      by_cases h3 : 1 ≤ a ∧ a ≤ 2147483646
      · rw [if_pos h3, if_neg (by decide), if_pos h3]
        by_cases h4 : q = 0
        · rw [if_pos h4, if_pos h4]
        · rw [if_neg h4, if_neg h4]
      · rw [if_neg h3, if_pos rfl, if_neg h3]
theorem tQ_4 {tx w a q : Int32} : tQ tx w a q ≠ 4 := by
  unfold tQ
  split
  · decide
  · split
    · decide
    · split
      · split <;> decide
      · decide
theorem tQ_0 {tx w a q : Int32} (h : tQ tx w a q = 0) : tx ≠ 0 ∧ w ≠ 0 ∧ (1 ≤ a ∧ a ≤ 2147483646) ∧ q ≠ 0 := by
  unfold tQ at h
  by_cases h1 : tx = 0
  · rw [if_pos h1] at h
    exact absurd h (by decide)
  · rw [if_neg h1] at h
    by_cases h2 : w = 0
    · rw [if_pos h2] at h
      exact absurd h (by decide)
    · rw [if_neg h2] at h
      by_cases h3 : 1 ≤ a ∧ a ≤ 2147483646
      · rw [if_pos h3] at h
        by_cases h4 : q = 0
        · rw [if_pos h4] at h
          exact absurd h (by decide)
        · exact ⟨h1, h2, h3, h4⟩
      · rw [if_neg h3] at h
        exact absurd h (by decide)
theorem c_Z_mL {L M : e_L} (h : frL mL L M) (hz : c_Z L) : c_Z M := by
  refine ⟨fun q hq => ?_, fun j hj => ?_, ?_⟩
  · rw [h 15 q (fun z => by rcases z with z | z | z <;> omega)]
    exact hz.1 q hq
  · rw [h 15 _ (fun z => by rcases z with z | z | z <;> omega)]
    exact hz.2.1 j hj
  · rw [h 18 24 (fun z => by rcases z with z | z | z <;> omega)]
    exact hz.2.2
theorem c_Z_83 {L : e_L} {i : Nat} {v : Int64} (h : c_Z L) : c_Z (e_ul L 83 i v) := c_Z_mL (frL_ul (Or.inl rfl)) h
theorem live_mF {a i : Nat} (l : r_live a i = true) (h : a ≠ 85) : ¬ mF a i := fun z => by
  rcases z with z | z
  · exact h z.1
  · exact live_S4 l z
theorem live_cF {a i : Nat} (l : r_live a i = true) (h : ¬ (23 ≤ a ∧ a ≤ 27)) : ¬ cF 23 a i := fun z => by
  rcases z with z | z | z
  · omega
  · omega
  · exact live_11 l z
theorem T_play (t : Nat) (ht : t < 600) : ST_play (Rl t) (Rl (t + 1)) := by
  intro a1 a2 a3 _ I L h
  have hx := Rl_hx h
  refine st_2 ?_
  unfold f_X7_play
  refine wp_e1 (r_within _ _ _) (wp_e1 (t_play7 hx) ?_)
  by_cases hv : tQ (I 83 6) 1 a1 (if 1 ≤ a2 ∧ a2 ≤ 20 then 1 else 0) = 0
  · obtain ⟨hx0, _, ha1, hq⟩ := tQ_0 hv
    have ha2 : 1 ≤ a2 ∧ a2 ≤ 20 := by
      by_cases q : 1 ≤ a2 ∧ a2 ≤ 20
      · exact q
      · exact absurd (if_neg q) hq
    obtain ⟨x, hx1, hx2, rfl⟩ := nI_btw (m := 1) (n := 2147483646) rfl rfl ha1.1 ha1.2
    obtain ⟨N, hN1, hN2, rfl⟩ := nI_btw (m := 1) (n := 20) rfl rfl ha2.1 ha2.2
    obtain ⟨c, s, d, f, sl, ti, CH, O, b, fc, st, n, w, gN, gC, gM, g2, gT, gf⟩ := Rl_nums h hx0 ht
    obtain ⟨T, C, p1, hT10, p2, hC, p33⟩ := past_TC h.2.2.2.1
    have xl : (nI x).toInt64 = lN x := nI_l (by omega)
    rw [hv]
    refine wp_e2 (r_refused 0 I) (wp_t rfl ?_)
    refine wp_c1 (C_keep (I := r_R7 I 0) p1 hT10 p2 hC) (fun A hA => ?_)
    obtain ⟨kg, ko⟩ := kp_game hT10 hA.1
    have gCA : GC A 23 c s d f sl ti CH O b fc st n w := GC_same kg gC
    have gTA : c_T A s d f := c_T_fr (fun i => ko 13 i (by omega)) (fun i => ko 14 i (by omega)) gT
    have sd : f_X5_seedWith (nI x) L = some (e_ul L 22 0 (lN x)) := by
      unfold f_X5_seedWith
      rw [xl]
      rfl
    refine wp_e1 sd ?_
    have tr : ∀ J M, (∀ i, J 85 i = I 85 i) → TR 23 (100 * t) A (e_ul L 22 0 (lN x)) J (e_ul M 83 31 (lN x)) := fun J M e => ⟨c, s, d, f, sl, ti, CH, O, b, fc, st, n, w, x, ⟨gN, gCA, GM_same e gM, G2_same (fun i => kg 23 i (by decide) (by decide)) (fun i => kg 27 i (by decide) (by decide)) e g2, gTA, (ko 11 5 (by omega)).trans h.2.2.2.2.1.1, c_Z_22 h.2.2.2.2.1.2, ul_s, ul_s, by omega⟩, gf⟩
    have go := fun J M e => S_plays (N := N) (a3 := a3) (by omega) N 0 0 e_FU e_FU (100 * t) A (e_ul L 22 0 (lN x)) J (e_ul M 83 31 (lN x)) (by omega) (wp_FU (by omega)) (wp_FU (by omega)) (by omega) (tr J M e)
    obtain ⟨r, I1, L1, _, _, e7, _, ⟨c', s', d', f', sl', ti', CH', O', b', fc', st', n', w', x', t1, tf⟩, f7, _, _⟩ := go I L (fun _ => rfl)
    refine wp_eq e7 ?_
    have j85 : ∀ i, I1 85 i = I 85 i := fun i => (f7 85 i (fun z => by rcases z with z | z | z | z <;> omega)).trans (ko 85 i (by omega))
    have j83 : ∀ i, I1 83 i = I 83 i := fun i => (f7 83 i (fun z => by rcases z with z | z | z | z <;> omega)).trans (ko 83 i (by omega))
    show wp (f_X8_play (nI x) (nI N) a3 I1 L1) _
    unfold f_X8_play
    refine wp_e1 (r_in _ _ _) ?_
    rw [if_pos ha1]
    refine wp_f (by decide) (wp_e1 (r_in _ _ _) ?_)
    rw [if_pos ha2]
    refine wp_f (by decide) ?_
    unfold f_X8_play_31
    refine wp_e1 (r_unless_ _ _) ?_
    rw [j83 6, if_neg hx0, if_neg (by decide)]
    refine wp_e2 (r_isRefused 0 I1) (wp_t rfl ?_)
    refine wp_c1 (M_rem (I := r_R8 I1 0) hC ((j83 33).trans p33)) (fun B hB => ?_)
    have b85 : ∀ i, B 85 i = I 85 i := fun i => (hB.1 85 i (fun z => by rcases z with z | z <;> omega)).trans (j85 i)
    rw [xl]
    refine wp_let ?_
    obtain ⟨r2, I2, L2, J2, M2, e7', e8', ⟨c', s', d', f', sl', ti', CH', O', b', fc', st', n', w', x', t1, tf⟩, f7', f8', fl'⟩ := go B L1 b85
    have ee := e7.symm.trans e7'
    injection ee with ee
    injection ee with er ee
    injection ee with ei el
    subst er
    subst ei
    subst el
    obtain ⟨u1, u2, u3, u4, u5, u6, u7, _, _, _⟩ := t1
    refine wp_eq e8' ⟨rfl, ?_⟩
    refine Rl_act2 h hx0 ht p1 hT10 p2 hC hA (fun a i l z _ _ => f7 a i (live_cF l z)) hB (fun a i l z => f8' a i (live_mF l z)) u1 u2 u3 u4 u5 (Nat.le_trans tf (by omega)) ?_ ?_ (c_Z_mL fl' (c_Z_83 u7))
    · exact (f8' 85 0 (fun z => by rcases z with z | z | z | z <;> omega)).trans (b85 0)
    · have e1 : J2 11 5 = B 11 5 := f8' 11 5 (fun z => by rcases z with z | z | z | z <;> omega)
      have e2 : B 11 5 = I1 11 5 := hB.1 11 5 (fun z => by rcases z with z | z <;> omega)
      show J2 11 5 = 0
      rw [e1, e2, u6]
  · refine wp_e2 (r_refused _ I) ?_
    rw [r_b_n hv]
    refine wp_f (by decide) (wp_some ?_)
    have k31 : ∀ s, (if I 83 6 = 0 then 1 else if s = 0 then 2 else 0) = tQ (I 83 6) 1 a1 (if 1 ≤ a2 ∧ a2 ≤ 20 then 1 else 0) → ∀ J M, f_X8_play_31 a1 a2 a3 s (I 83 6) J M = some (-1, r_R8 J (tQ (I 83 6) 1 a1 (if 1 ≤ a2 ∧ a2 ≤ 20 then 1 else 0)), M) := fun s es J M => by
      unfold f_X8_play_31
      rw [r_unless_, r_b1, es, r_isRefused, r_b2, r_b_n hv, if_neg (by decide)]
    have e8 : f_X8_play a1 a2 a3 (r_R7 I (tQ (I 83 6) 1 a1 (if 1 ≤ a2 ∧ a2 ≤ 20 then 1 else 0))) L = some (-1, r_R8 (r_R7 I (tQ (I 83 6) 1 a1 (if 1 ≤ a2 ∧ a2 ≤ 20 then 1 else 0))) (tQ (I 83 6) 1 a1 (if 1 ≤ a2 ∧ a2 ≤ 20 then 1 else 0)), L) := by
      have j6 : r_R7 I (tQ (I 83 6) 1 a1 (if 1 ≤ a2 ∧ a2 ≤ 20 then 1 else 0)) 83 6 = I 83 6 := rfl
      unfold f_X8_play f_X8_play_30
      rw [j6, r_in, r_b1]
      by_cases h1 : 1 ≤ a1 ∧ a1 ≤ 2147483646
      · rw [if_pos h1, if_neg (by decide), r_in, r_b1]
        by_cases h2 : 1 ≤ a2 ∧ a2 ≤ 20
        · rw [if_pos h2] at k31 ⊢
          rw [if_neg (by decide)]
          refine k31 1 ?_ _ _
          unfold tQ
          rw [if_pos h1]
          rfl
        · rw [if_neg h2] at k31 ⊢
          rw [if_pos rfl]
          refine k31 0 ?_ _ _
          unfold tQ
          rw [if_pos h1]
          rfl
      · rw [if_neg h1, if_pos rfl]
        refine k31 0 ?_ _ _
        unfold tQ
        rw [if_neg h1]
        rfl
    exact wp_eq e8 ⟨rfl, Rl_mono (Nat.le_succ t) (Rl_R tQ_4 h)⟩
