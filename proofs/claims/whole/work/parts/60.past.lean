-- ACTS: what was is kept
theorem r_note_congr {C M C' M' : Nat → Int32} {s q s' q' : Nat} (hC : ∀ i, i < 6 → C' (s' * 6 + i) = C (s * 6 + i)) (hM : ∀ i, i < 8 → M' (q' + i) = M (q + i)) (h : r_note C M s q) : r_note C' M' s' q' := by
  have c0 : C' (s' * 6) = C (s * 6) := hC 0 (by decide)
  have m0 : M' q' = M q := hM 0 (by decide)
  unfold r_note
  rw [c0, m0, hC 1 (by decide), hC 2 (by decide), hC 3 (by decide), hC 4 (by decide), hC 5 (by decide), hM 1 (by decide), hM 2 (by decide), hM 3 (by decide), hM 4 (by decide), hM 5 (by decide), hM 6 (by decide), hM 7 (by decide)]
  exact h
theorem r_GR_congr {F ch ru od no M F' ch' ru' od' no' M' : Nat → Int32} {o o' t : Nat} (hF : ∀ i, i < 8 → F' i = F i) (hch : ∀ k, k < 54 → ch' k = ch k) (hru : ∀ k, k < 5 → ru' k = ru k) (hod : ∀ k, k < 9 → od' k = od k) (hno : ∀ k, k < 240 → no' k = no k) (hM : ∀ k, k < 396 → M' (o' + k) = M (o + k)) (h : r_GR F ch ru od no M o t) : r_GR F' ch' ru' od' no' M' o' t := by
  obtain ⟨⟨a0, a1, a2⟩, h2, h3, h4, h5, h6, h7, h8, h9, h10, h11, h12, ⟨s1, s2, s3, s4, s5⟩, h14⟩ := h
  have m0 : M' o' = M o := hM 0 (by decide)
  obtain ⟨x1, x2⟩ := nI_rn (n := 9) (Int32.le_trans (show (0 : Int32) ≤ 1 by decide) a1) a2 rfl
  obtain ⟨y1, y2⟩ := nI_rn (n := 40) s2 s3 rfl
  refine ⟨?_, ?_, ?_, ?_, ?_, ?_, ?_, ?_, ?_, ?_, ?_, ?_, ?_, ?_⟩
  · rw [hF 0 (by decide), m0]
    exact ⟨a0, a1, a2⟩
  · intro k hk
    rw [hru k hk, Nat.add_assoc, hM (1 + k) (by omega), ← Nat.add_assoc]
    exact h2 k hk
  · rw [hru 0 (by decide), hru 1 (by decide), hru 2 (by decide), hru 3 (by decide), hru 4 (by decide)]
    exact h3
  · intro k hk
    rw [m0] at hk
    rw [hch k (by omega), Nat.add_assoc, hM (6 + k) (by omega), ← Nat.add_assoc]
    exact h4 k hk
  · intro b hb
    rw [m0] at hb
    have e : ∀ k, k < 6 → ch' (6 * b + k) = ch (6 * b + k) := fun k hk => hch _ (by omega)
    have e0 : ch' (6 * b) = ch (6 * b) := hch _ (by omega)
    refine ⟨fun k hk => by rw [e k hk]; exact (h5 b hb).1 k hk, ?_⟩
    rw [e0, e 1 (by decide), e 2 (by decide), e 3 (by decide), e 4 (by decide), e 5 (by decide)]
    exact (h5 b hb).2
  · intro k hk
    rw [m0] at hk
    rw [hod k (by omega), Nat.add_assoc, hM (60 + k) (by omega), ← Nat.add_assoc, m0]
    exact h6 k hk
  · intro j k hj hk
    rw [m0] at hj hk
    rw [hod j (by omega), hod k (by omega)]
    exact h7 j k hj hk
  · rw [hF 1 (by decide), hM 69 (by decide)]
    exact h8
  · rw [hF 2 (by decide), hM 70 (by decide), hM 71 (by decide)]
    exact h9
  · rw [hF 4 (by decide), hM 72 (by decide), m0]
    exact h10
  · rw [hF 5 (by decide), hM 73 (by decide)]
    exact h11
  · rw [hF 3 (by decide), hM 74 (by decide)]
    exact h12
  · rw [hF 6 (by decide), hF 7 (by decide), hM 75 (by decide)]
    exact ⟨s1, s2, s3, s4, s5⟩
  · intro j hj
    rw [hF 6 (by decide)] at hj
    rw [hF 6 (by decide), hF 7 (by decide)]
    refine r_note_congr (fun i hi => hno _ ?_) (fun i hi => ?_) (h14 j hj)
    · have := Nat.mod_lt (r_n (F 7) + 40 - j) (show 0 < 40 by decide)
      omega
    · rw [show o' + 76 + 8 * (r_n (F 6) - 1 - j) + i = o' + (76 + 8 * (r_n (F 6) - 1 - j) + i) by omega, hM _ (by omega)]
      congr 1
      omega
-- a game is copied
theorem cpy_a {I : e_I} {a0 sp a1 dp n b j : Nat} (h : b ≠ a1) : e_cpy I a0 sp a1 dp n b j = I b j := by
  show (if b = a1 then _ else _) = _
  rw [if_neg h]
theorem cpy_s {I : e_I} {a0 a1 n j : Nat} (h : j < n) : e_cpy I a0 0 a1 0 n a1 j = I a0 j := by
  have c : 0 ≤ j ∧ j < 0 + n := by omega
  show (if a1 = a1 then (if 0 ≤ j ∧ j < 0 + n then I a0 (0 + (j - 0)) else I a1 j) else I a1 j) = _
  rw [if_pos rfl, if_pos c, Nat.zero_add, Nat.sub_zero]
def cpF (I J : e_I) (g g1 : Nat) : Prop := (∀ i, i < 8 → J g i = I g1 i) ∧ (∀ k, k < 54 → J (g + 1) k = I (g1 + 1) k) ∧ (∀ k, k < 5 → J (g + 2) k = I (g1 + 2) k) ∧ (∀ k, k < 9 → J (g + 3) k = I (g1 + 3) k) ∧ (∀ k, k < 240 → J (g + 4) k = I (g1 + 4) k)
theorem cp_step {I A : e_I} {g g1 m : Nat} (hg : g1 ≠ g) (h : fr (fun a _ => a = g) I A ∧ ∀ i, i < m → A g i = I g1 i) : fr (fun a _ => a = g) I (e_ui A g m (A g1 m)) ∧ ∀ i, i < m + 1 → e_ui A g m (A g1 m) g i = I g1 i := by
  refine ⟨fr_tr h.1 (fr_ui rfl), fun i hi => ?_⟩
  by_cases q : i = m
  · subst q
    rw [ui_s]
    exact h.1 g1 i hg
  · rw [ui_i q]
    exact h.2 i (by omega)
theorem C_copy {g g1 : Nat} {I : e_I} (h : g + 5 ≤ g1 ∨ g1 + 5 ≤ g) : wp (f_X0_copyFrom g g1 I) (fun J => fr (fun a _ => g ≤ a ∧ a ≤ g + 4) I J ∧ cpF I J g g1) := by
  have hg : g1 ≠ g := by omega
  have h0 := cp_step (I := I) (A := I) (m := 0) hg ⟨fr_rfl, fun i hi => by omega⟩
  have h1 := cp_step (m := 1) hg h0
  have h2 := cp_step (m := 2) hg h1
  have h3 := cp_step (m := 3) hg h2
  have h4 := cp_step (m := 4) hg h3
  have h5 := cp_step (m := 5) hg h4
  have h6 := cp_step (m := 6) hg h5
  have h7 := cp_step (m := 7) hg h6
  unfold f_X0_copyFrom
  refine wp_let (wp_let (wp_let (wp_let (wp_let (wp_let (wp_let (wp_let (wp_let (wp_let (wp_let (wp_let (wp_some ?_))))))))))))
  revert h7
  generalize e_ui _ g 7 _ = A
  intro h7
  obtain ⟨f7, g7⟩ := h7
  have k0 : (0 : Int32).toNatClampNeg = 0 := rfl
  have k54 : (54 : Int32).toNatClampNeg = 54 := rfl
  have k5 : (5 : Int32).toNatClampNeg = 5 := rfl
  have k9 : (9 : Int32).toNatClampNeg = 9 := rfl
  have k240 : (240 : Int32).toNatClampNeg = 240 := rfl
  rw [k0, k54, k5, k9, k240]
  refine ⟨fun a i n => ?_, fun i hi => ?_, fun k hk => ?_, fun k hk => ?_, fun k hk => ?_, fun k hk => ?_⟩
  · rw [cpy_a (by omega), cpy_a (by omega), cpy_a (by omega), cpy_a (by omega), f7 a i (by omega)]
  · rw [cpy_a (by omega), cpy_a (by omega), cpy_a (by omega), cpy_a (by omega), g7 i hi]
  · rw [cpy_a (by omega), cpy_a (by omega), cpy_a (by omega), cpy_s hk, f7 (g1 + 1) k (by omega)]
  · rw [cpy_a (by omega), cpy_a (by omega), cpy_s hk, cpy_a (by omega), f7 (g1 + 2) k (by omega)]
  · rw [cpy_a (by omega), cpy_s hk, cpy_a (by omega), cpy_a (by omega), f7 (g1 + 3) k (by omega)]
  · rw [cpy_s hk, cpy_a (by omega), cpy_a (by omega), cpy_a (by omega), f7 (g1 + 4) k (by omega)]
theorem eK_nI {T : Nat} (h : T < 10) : eK (nI T) = 33 + 5 * T := by
  unfold eK
  rw [nI_clamp (by omega), Nat.mod_eq_of_lt h]
def kpF (T a i : Nat) : Prop := (33 + 5 * T ≤ a ∧ a ≤ 33 + 5 * T + 4) ∨ (a = 9 ∧ (i = 1 ∨ i = 2))
theorem C_keep {I : e_I} {T C : Nat} (h1 : I 9 1 = nI T) (hT : T < 10) (h2 : I 9 2 = nI C) (hC : C ≤ 10) : wp (f_X4_keep 23 I) (fun J => fr (kpF T) I J ∧ J 9 1 = nI ((T + 1) % 10) ∧ J 9 2 = nI (min (C + 1) 10) ∧ cpF I J (33 + 5 * T) 23) := by
  unfold f_X4_keep
  rw [h1, eK_nI hT]
  refine wp_as (nI_ix hT (by omega)) (wp_c1 (C_copy (g := 33 + 5 * T) (g1 := 23) (by omega)) (fun J hJ => ?_))
  obtain ⟨j1, j2⟩ := hJ
  have e1 : J 9 1 = nI T := by rw [j1 9 1 (by omega)]; exact h1
  have e2 : J 9 2 = nI C := by rw [j1 9 2 (by omega)]; exact h2
  have fin : ∀ x, x = (T + 1) % 10 → wp (f_X4_keep_41 23 (nI x) J) (fun J => fr (kpF T) I J ∧ J 9 1 = nI ((T + 1) % 10) ∧ J 9 2 = nI (min (C + 1) 10) ∧ cpF I J (33 + 5 * T) 23) := fun x hx => by
    unfold f_X4_keep_41
    refine wp_let (wp_let (wp_some ?_))
    have e3 : e_ui J 9 1 (nI x) 9 2 = nI C := (ui_i (show (2 : Nat) ≠ 1 by decide)).trans e2
    have m10 : e_min (nI C + 1) 10 = nI (min (C + 1) 10) := by rw [nI_1 C, n10, nI_min (by omega) (by decide)]
    rw [e3, m10]
    have oth : ∀ a i, a ≠ 9 → e_ui (e_ui J 9 1 (nI x)) 9 2 (nI (min (C + 1) 10)) a i = J a i := fun a i ha => by rw [ui_a ha, ui_a ha]
    refine ⟨fun a i n => ?_, ?_, ui_s, fun i hi => ?_, fun k hk => ?_, fun k hk => ?_, fun k hk => ?_, fun k hk => ?_⟩
    · by_cases z : a = 9
      · subst z
        have z1 : i ≠ 1 := fun z => n (Or.inr ⟨rfl, Or.inl z⟩)
        have z2 : i ≠ 2 := fun z => n (Or.inr ⟨rfl, Or.inr z⟩)
        rw [ui_i z2, ui_i z1, j1 9 i (by omega)]
      · rw [oth a i z, j1 a i (fun y => n (Or.inl y))]
    · rw [ui_i (show (1 : Nat) ≠ 2 by decide), ui_s, hx]
    · rw [oth _ _ (by omega)]
      exact j2.1 i hi
    · rw [oth _ _ (by omega)]
      exact j2.2.1 k hk
    · rw [oth _ _ (by omega)]
      exact j2.2.2.1 k hk
    · rw [oth _ _ (by omega)]
      exact j2.2.2.2.1 k hk
    · rw [oth _ _ (by omega)]
      exact j2.2.2.2.2 k hk
  unfold f_X4_keep_19
  rw [e1, nI_1 T]
  by_cases q : T + 1 = 10
  · refine wp_t (by rw [q]; decide) (fin 0 ?_)
    rw [q]
  · exact wp_f (c_ge (N := 10) (by omega) (by decide)) (fin (T + 1) (Nat.mod_eq_of_lt (by omega)).symm)
-- the model's rows
theorem M_lays {a0 a2 x y n : Nat} {I : e_I} (hne : a0 ≠ a2) (h0 : x + n ≤ e_ln a0) (h2 : y + n ≤ e_ln a2) (hx : x + n < 10000) (hy : y + n < 10000) : wp (f_X8_lays a0 a2 (nI x) (nI y) (nI n) I) (fun J => fr (fun a i => a = a0 ∧ x ≤ i ∧ i < x + n) I J ∧ ∀ k, k < n → J a0 (x + k) = I a2 (y + k)) := by
  unfold f_X8_lays
  refine wp_loop (F := fun m k J => f_X8_lays_3 a0 a2 (nI x) (nI y) (nI n) (fun J => some J) m (nI k) J) n (fun k J => fr (fun a i => a = a0 ∧ x ≤ i ∧ i < x + n) I J ∧ ∀ i, i < k → J a0 (x + i) = I a2 (y + i)) ?_ ?_ e_FU 0 I (by omega) (wp_FU (by omega)) ⟨fr_rfl, fun _ h => by omega⟩
  · intro m J hP
    show wp (f_X8_lays_3 _ _ _ _ _ _ (m + 1) (nI n) J) _
    rw [f_X8_lays_3]
    exact wp_t (Int32.le_refl _) (wp_some hP)
  · intro m k J hk hP ih
    show wp (f_X8_lays_3 _ _ _ _ _ _ (m + 1) (nI k) J) _
    rw [f_X8_lays_3, nI_add, nI_add]
    refine wp_f (c_ge hk (by omega)) (wp_as (nI_ix (by omega) (by omega)) (wp_as (nI_ix (by omega) (by omega)) (wp_let (wp_let ?_))))
    rw [nI_1 k, nI_clamp (n := x + k) (by omega), nI_clamp (n := y + k) (by omega)]
    refine ih (e_ui J a0 (x + k) (J a2 (y + k))) ⟨fr_tr hP.1 (fr_ui ⟨rfl, by omega, by omega⟩), fun i hi => ?_⟩
    by_cases q : i = k
    · subst q
      rw [ui_s]
      exact hP.1 a2 _ (fun z => hne z.1.symm)
    · rw [ui_i (show x + i ≠ x + k by omega)]
      exact hP.2 i (by omega)
def rmF (a i : Nat) : Prop := a = 96 ∨ (a = 83 ∧ i = 33)
theorem M_rem55 {I I0 : e_I} {C : Nat} (hC : C ≤ 9) (h33 : I 83 33 = nI C) : wp (f_X8_remembers_55 I) (fun J => fr rmF I J ∧ J 83 33 = nI (C + 1) ∧ (∀ k, k < 396 → J 96 (396 * C + k) = I 85 k) ∧ (∀ i, i < 396 * C → J 96 i = I 96 i)) := by
  unfold f_X8_remembers_55
  have e : (396 : Int32) * nI C = nI (396 * C) := by rw [n396, nI_mul]
  rw [h33, e]
  refine wp_c1 (M_lays (a0 := 96) (a2 := 85) (x := 396 * C) (y := 0) (n := 396) (by decide) (show 396 * C + 396 ≤ 3960 by omega) (by decide) (by omega) (by decide)) (fun J hJ => wp_let (wp_some ?_))
  have j33 : J 83 33 = nI C := by rw [hJ.1 83 33 (fun z => by have := z.1; omega)]; exact h33
  rw [j33, nI_1 C]
  refine ⟨fr_tr (fr_mono (fun a i z => Or.inl z.1) hJ.1) (fr_ui (Or.inr ⟨rfl, rfl⟩)), ui_s, fun k hk => ?_, fun i hi => ?_⟩
  · rw [ui_a (show (96 : Nat) ≠ 83 by decide), hJ.2 k hk, Nat.zero_add]
  · rw [ui_a (show (96 : Nat) ≠ 83 by decide), hJ.1 96 i (fun z => by omega)]
theorem M_rem {I : e_I} {C : Nat} (hC : C ≤ 10) (h33 : I 83 33 = nI C) : wp (f_X8_remembers I) (fun J => fr rmF I J ∧ J 83 33 = nI (min (C + 1) 10) ∧ (∀ k, k < 396 → J 96 (396 * min C 9 + k) = I 85 k) ∧ (∀ r, r < min C 9 → ∀ k, k < 396 → J 96 (396 * r + k) = I 96 (396 * (r + (if C = 10 then 1 else 0)) + k))) := by
  unfold f_X8_remembers
  rw [h33]
  by_cases q : C = 10
  · subst q
    refine wp_f (fun n => n rfl) (wp_let ?_)
    have e9 : nI 10 - 1 = nI 9 := nI_sub (b := 1) (by decide)
    rw [e9]
    have f0 : fr rmF I (e_ui I 83 33 (nI 9)) := fr_ui (Or.inr ⟨rfl, rfl⟩)
    refine wp_loop (F := fun m k J => f_X8_remembers_21 (fun (I_3 : e_I) => f_X8_remembers_55 I_3) m (nI k) J) 3564 (fun k J => fr rmF I J ∧ J 83 33 = nI 9 ∧ (∀ i, i < k → J 96 i = I 96 (i + 396)) ∧ (∀ i, k ≤ i → J 96 i = I 96 i)) ?_ ?_ e_FU 0 _ (by omega) (wp_FU (by decide)) ⟨f0, ui_s, fun _ h => by omega, fun i _ => ui_a (show (96 : Nat) ≠ 83 by decide)⟩
    · intro m J hP
      obtain ⟨p1, p2, p3, p4⟩ := hP
      show wp (f_X8_remembers_21 _ (m + 1) (nI 3564) J) _
      rw [f_X8_remembers_21, p2]
      refine wp_t (by decide) ?_
      refine wp_mono (M_rem55 (I0 := I) (by decide) p2) (fun K hK => ⟨fr_tr p1 hK.1, hK.2.1, fun k hk => ?_, fun r hr k hk => ?_⟩)
      · show K 96 (396 * 9 + k) = _
        rw [hK.2.2.1 k hk, p1 85 k (fun z => by rcases z with z | z <;> omega)]
      · have hr : r < 9 := hr
        show K 96 (396 * r + k) = I 96 (396 * (r + 1) + k)
        rw [hK.2.2.2 _ (by omega), p3 _ (by omega)]
        congr 1
        omega
    · intro m k J hk hP ih
      obtain ⟨p1, p2, p3, p4⟩ := hP
      show wp (f_X8_remembers_21 _ (m + 1) (nI k) J) _
      have e39 : nI 9 * 396 = nI 3564 := by rw [n396, nI_mul]
      rw [f_X8_remembers_21, p2, e39, n396, nI_add]
      refine wp_f (c_ge hk (by decide)) (wp_as (nI_ix (by omega) (by omega)) (wp_as (nI_ix (by omega) (by omega)) (wp_let (wp_let ?_))))
      rw [nI_1 k, nI_clamp (n := k) (by omega), nI_clamp (n := k + 396) (by omega), p4 _ (by omega)]
      refine ih (e_ui J 96 k (I 96 (k + 396))) ⟨fr_tr p1 (fr_ui (Or.inl rfl)), ?_, fun i hi => ?_, fun i hi => ?_⟩
      · rw [ui_a (show (83 : Nat) ≠ 96 by decide)]
        exact p2
      · by_cases z : i = k
        · subst z
          rw [ui_s]
        · rw [ui_i z]
          exact p3 i (by omega)
      · rw [ui_i (show i ≠ k by omega)]
        exact p4 i (by omega)
  · refine wp_t (nI_n (b := 10) q (by omega) (by decide)) ?_
    refine wp_mono (M_rem55 (I0 := I) (by omega) h33) (fun K hK => ⟨hK.1, ?_, fun k hk => ?_, fun r hr k hk => ?_⟩)
    · rw [Nat.min_eq_left (by omega)]
      exact hK.2.1
    · rw [Nat.min_eq_left (by omega)]
      exact hK.2.2.1 k hk
    · rw [if_neg q, Nat.add_zero]
      exact hK.2.2.2 _ (by omega)
theorem past_push {I I2 : e_I} {t T C : Nat} (old : r_past I t) (cur : r_GR (I 23) (I 24) (I 25) (I 26) (I 27) (I 85) 0 (100 * t)) (h1 : I 9 1 = nI T) (hT : T < 10) (h2 : I 9 2 = nI C) (hC : C ≤ 10) (n1 : I2 9 1 = nI ((T + 1) % 10)) (n2 : I2 9 2 = nI (min (C + 1) 10)) (n33 : I2 83 33 = nI (min (C + 1) 10)) (cp : cpF I I2 (33 + 5 * T) 23) (oth : ∀ a, 33 ≤ a → a ≤ 82 → ¬ (33 + 5 * T ≤ a ∧ a ≤ 33 + 5 * T + 4) → ∀ i, I2 a i = I a i) (m0 : ∀ k, k < 396 → I2 96 (396 * min C 9 + k) = I 85 k) (mr : ∀ r, r < min C 9 → ∀ k, k < 396 → I2 96 (396 * r + k) = I 96 (396 * (r + (if C = 10 then 1 else 0)) + k)) : r_past I2 t := by
  obtain ⟨⟨b1, b2, b3, b4, b5⟩, b6⟩ := old
  have tm : (T + 1) % 10 < 10 := Nat.mod_lt _ (by decide)
  have c10 : min (C + 1) 10 ≤ 10 := Nat.min_le_right _ _
  refine ⟨⟨?_, ?_, ?_, ?_, ?_⟩, fun j hj g hg => ?_⟩
  · rw [n2, n33]
  · rw [n2]
    exact nI_pos' (by omega)
  · rw [n2]
    exact nI_le (b := 10) c10 (by decide)
  · rw [n1]
    exact nI_pos' (by omega)
  · rw [n1]
    exact nI_le (b := 9) (by omega) (by decide)
  · rw [n2, nI_r (by omega)] at hj
    rw [n1, nI_r (by omega)] at hg
    rw [n2, nI_r (by omega)]
    by_cases q : j = 0
    · subst q
      have eg : g = 33 + 5 * T := by omega
      subst eg
      have ec : 396 * (min (C + 1) 10 - 1 - 0) = 396 * min C 9 := by omega
      rw [ec]
      refine r_GR_congr cp.1 cp.2.1 cp.2.2.1 cp.2.2.2.1 cp.2.2.2.2 (fun k hk => ?_) cur
      rw [Nat.zero_add]
      exact m0 k hk
    · have hjC : j - 1 < r_n (I 9 2) := by
        rw [h2, nI_r (by omega)]
        omega
      have eg : g = 33 + 5 * ((r_n (I 9 1) + 9 - (j - 1)) % 10) := by
        rw [h1, nI_r (by omega)]
        omega
      have k := b6 (j - 1) hjC g eg
      rw [h1, nI_r (by omega)] at eg
      have ne : (T + 9 - (j - 1)) % 10 ≠ T := by omega
      have gl : 33 ≤ g ∧ g + 4 ≤ 82 := by
        have := Nat.mod_lt (T + 9 - (j - 1)) (show 0 < 10 by decide)
        omega
      rw [h2, nI_r (by omega)] at k
      refine r_GR_congr (fun i _ => oth _ (by omega) (by omega) (by omega) i) (fun i _ => oth _ (by omega) (by omega) (by omega) i) (fun i _ => oth _ (by omega) (by omega) (by omega) i) (fun i _ => oth _ (by omega) (by omega) (by omega) i) (fun i _ => oth _ (by omega) (by omega) (by omega) i) (fun i hi => ?_) k
      rw [mr _ (by omega) i hi]
      congr 2
      by_cases z : C = 10
      · rw [if_pos z]
        omega
      · rw [if_neg z]
        omega
