-- NAMED: the pure half
theorem C_only {N : Nat} {D : Nat → Nat} {I : e_I} (hN : N ≤ 500) (hc : cT I N D) (hl : e_max 0 (e_min (nI N) (I 1 3)) = nI N) : ∃ I1, f_X6_onlyWord (nI N) I = some (if tk N D 0 = 0 ∧ tk N D (te N D 0) = 3 then nI (r_code (tw N D 0)) else -1, I1) ∧ fr (fun a i => a = 1 ∧ (i = 5 ∨ (9 ≤ i ∧ i ≤ 13))) I I1 := by
  have te0 := te_le (D := D) (Nat.zero_le N)
  have A9 : (e_ui (e_ui (e_ui I 1 9 (nI N)) 1 10 0) 1 13 0) 1 9 = nI N := rfl
  have A10 : (e_ui (e_ui (e_ui I 1 9 (nI N)) 1 10 0) 1 13 0) 1 10 = nI 0 := rfl
  have A0 : fr (fun a i => a = 1 ∧ (i = 5 ∨ (9 ≤ i ∧ i ≤ 13))) I (e_ui (e_ui (e_ui I 1 9 (nI N)) 1 10 0) 1 13 0) := fr_tr (fr_tr (fr_ui ⟨rfl, by omega⟩) (fr_ui ⟨rfl, by omega⟩)) (fr_ui ⟨rfl, by omega⟩)
  have Ac : cT (e_ui (e_ui (e_ui I 1 9 (nI N)) 1 10 0) 1 13 0) N D := cT_fr (fun i => rfl) hc
  unfold f_X6_onlyWord f_X6_startAt f_X6_onlyWord_24 f_X6_onlyWord_42
  rw [hl, let_eq, let_eq, let_eq, r_b1]
  generalize e_ui (e_ui (e_ui I 1 9 (nI N)) 1 10 0) 1 13 0 = I0 at A9 A10 A0 Ac ⊢
  obtain ⟨I1, e1', f1, g5, g10, g11, g12, g13⟩ := C_step hN (Nat.zero_le N) Ac A10 A9
  have c1 : cT I1 N D := cT_fr (fun i => f1 5 i (fun z => by cases z.1)) Ac
  have n9 : I1 1 9 = nI N := (f1 1 9 (fun z => by have := z.2; omega)).trans A9
  obtain ⟨I2, e2', f2, h5, h10, h11, h12, h13⟩ := C_step hN te0.2 c1 g10 n9
  have tk4 := tk_le (N := N) (p := 0) (D := D)
  have tk5 := tk_le (N := N) (p := te N D 0) (D := D)
  have sf : ∀ a i, sS a i → a = 1 ∧ (i = 5 ∨ (9 ≤ i ∧ i ≤ 13)) := fun a i z => ⟨z.1, by have := z.2; omega⟩
  refine ⟨I2, ?_, fr_tr (fr_tr A0 (fr_mono sf f1)) (fr_mono sf f2)⟩
  rw [e1', r_b1, g11]
  by_cases q0 : tk N D 0 = 0
  · have z0 : ¬ nI (tk N D 0) ≠ 0 := fun n => n (by rw [q0]; rfl)
    rw [if_neg z0, e2', r_b1, h11, g12 q0]
    by_cases q3 : tk N D (te N D 0) = 3
    · have z3 : ¬ nI (tk N D (te N D 0)) ≠ 3 := fun n => n (by rw [q3]; rfl)
      rw [if_neg z3, if_pos ⟨q0, q3⟩]
    · have z3 : nI (tk N D (te N D 0)) ≠ 3 := nI_n (b := 3) q3 (by omega) (by decide)
      have nn : ¬ (tk N D 0 = 0 ∧ tk N D (te N D 0) = 3) := fun n => q3 n.2
      rw [if_pos z3, if_neg nn]
  · have z0 : nI (tk N D 0) ≠ 0 := nI_ne0 (by omega) (by omega)
    have nn : ¬ (tk N D 0 = 0 ∧ tk N D (te N D 0) = 3) := fun n => q0 n.1
    rw [if_pos z0, e2', r_b1, h11, if_neg nn]
    by_cases q3 : tk N D (te N D 0) = 3
    · have z3 : ¬ nI (tk N D (te N D 0)) ≠ 3 := fun n => n (by rw [q3]; rfl)
      rw [if_neg z3]
    · have z3 : nI (tk N D (te N D 0)) ≠ 3 := nI_n (b := 3) q3 (by omega) (by decide)
      rw [if_pos z3]
theorem M_n25 {N : Nat} {D : Nat → Nat} {J : e_I} (hN : N ≤ 500) (hm : mT J N D) {k47 : Int32 → e_I → Option (Int32 × e_I)} : ∀ m p n, p + m = N → m < n → f_X8_named_25 (nI N) k47 n (nI p) J = k47 (nI (rnT D isS m p)) J := by
  intro m
  induction m with
  | zero =>
    intro p n h0 hn
    obtain ⟨n', rfl⟩ : ∃ k, n = k + 1 := ⟨n - 1, by omega⟩
    have h0 : p = N := h0
    have ge : nI p ≥ nI N := nI_le (by omega) (by omega)
    rw [f_X8_named_25, if_pos ge]
    rfl
  | succ m ih =>
    intro p n h0 hn
    obtain ⟨n', rfl⟩ : ∃ k, n = k + 1 := ⟨n - 1, by omega⟩
    have ge : ¬ nI p ≥ nI N := c_ge (by omega) (by omega)
    have ix : e_ix (nI p) 500 = true := nI_ix (by omega) (by omega)
    obtain ⟨d1, d2⟩ := hm p (by omega)
    have e32 : nI (D p) = 32 ↔ D p = 32 := nI_eq (b := 32) (by omega) (by decide)
    rw [f_X8_named_25, if_neg ge]
    unfold e_as
    rw [if_pos ix, nI_clamp (n := p) (by omega), d1]
    by_cases q : D p = 32
    · have er : rnT D isS (m + 1) p = rnT D isS m (p + 1) := if_pos (isS_i.mpr q)
      rw [if_neg (fun n => n (e32.mpr q)), let_eq, nI_1 p, er]
      exact ih (p + 1) n' (by omega) (by omega)
    · have er : rnT D isS (m + 1) p = p := if_neg (fun n => q (isS_i.mp n))
      have z : nI (D p) ≠ 32 := fun n => q (e32.mp n)
      rw [if_pos z, er]
theorem M_n47 {N f : Nat} {D : Nat → Nat} {J : e_I} (hN : N ≤ 500) (hm : mT J N D) {k71 : Int32 → e_I → Option (Int32 × e_I)} : ∀ m n, f + m ≤ N → m < n → ∃ t, f_X8_named_47 (nI f) k71 n (nI (f + m)) J = k71 (nI t) J ∧ f ≤ t ∧ t ≤ f + m ∧ (∀ i, t ≤ i → i < f + m → D i = 32) ∧ (f < t → D (t - 1) ≠ 32) := by
  intro m
  induction m with
  | zero =>
    intro n h0 hn
    obtain ⟨n', rfl⟩ : ∃ k, n = k + 1 := ⟨n - 1, by omega⟩
    have le : nI (f + 0) ≤ nI f := nI_le (by omega) (by omega)
    refine ⟨f, ?_, Nat.le_refl _, Nat.le_refl _, fun i h1 h2 => by omega, fun z => by omega⟩
    rw [f_X8_named_47, if_pos le]
    rfl
  | succ m ih =>
    intro n h0 hn
    obtain ⟨n', rfl⟩ : ∃ k, n = k + 1 := ⟨n - 1, by omega⟩
    have le : ¬ nI (f + (m + 1)) ≤ nI f := nI_ge (by omega) (by omega)
    have s1 : nI (f + (m + 1)) - 1 = nI (f + m) := nI_sub (b := 1) (by omega)
    have s2 : nI (f + (m + 1)) + (-1) = nI (f + m) := by
      rw [← s1]
      exact (Int32.sub_eq_add_neg ..).symm
    have ix : e_ix (nI (f + m)) 500 = true := nI_ix (by omega) (by omega)
    obtain ⟨d1, d2⟩ := hm (f + m) (by omega)
    have e32 : nI (D (f + m)) = 32 ↔ D (f + m) = 32 := nI_eq (b := 32) (by omega) (by decide)
    rw [f_X8_named_47, if_neg le, s1, s2]
    unfold e_as
    rw [if_pos ix, nI_clamp (n := f + m) (by omega), d1]
    by_cases q : D (f + m) = 32
    · obtain ⟨t, e, t1, t2, t3, t4⟩ := ih n' (by omega) (by omega)
      refine ⟨t, ?_, t1, by omega, fun i h1 h2 => ?_, t4⟩
      · rw [if_neg (fun n => n (e32.mpr q)), let_eq]
        exact e
      · by_cases z : i = f + m
        · rw [z]
          exact q
        · exact t3 i h1 (by omega)
    · have z : nI (D (f + m)) ≠ 32 := fun n => q (e32.mp n)
      refine ⟨f + (m + 1), ?_, by omega, Nat.le_refl _, fun i h1 h2 => by omega, fun _ => ?_⟩
      · rw [if_pos z]
      · rw [show f + (m + 1) - 1 = f + m by omega]
        exact q
theorem M_n74 {J : e_I} {f t cnt : Nat} {C : Nat → Int32} {nm : Int32} (hc : cnt ≤ 9) (h85 : J 85 0 = nI cnt) (hf : f < t) (ht : t ≤ 500) {k117 : e_I → Option (Int32 × e_I)} {k108 : Int32 → e_I → Option (Int32 × e_I)} (hat : ∀ b, b < cnt → f_X8_isAt 87 ((6 : Int32) * nI b) (nI f) (nI t) J = some (if C b = nm then 1 else 0)) : ∀ m b n, b + m = cnt → m < n → (∀ b', fnd C nm m b = some b' → f_X8_named_74 (nI f) (nI t) k117 k108 n (nI b) J = k108 (nI b') J) ∧ (fnd C nm m b = none → f_X8_named_74 (nI f) (nI t) k117 k108 n (nI b) J = k117 J) := by
  have t0 : (0 : Int32).toNatClampNeg = 0 := rfl
  have le : ¬ nI t ≤ nI f := nI_ge hf (by omega)
  intro m
  induction m with
  | zero =>
    intro b n h0 hn
    obtain ⟨n', rfl⟩ : ∃ k, n = k + 1 := ⟨n - 1, by omega⟩
    have h0 : b = cnt := h0
    have ge : nI b ≥ nI cnt := nI_le (by omega) (by omega)
    refine ⟨fun b' e => (by cases e), fun _ => ?_⟩
    rw [f_X8_named_74, if_neg le, t0, h85, if_pos ge]
  | succ m ih =>
    intro b n h0 hn
    obtain ⟨n', rfl⟩ : ∃ k, n = k + 1 := ⟨n - 1, by omega⟩
    have ge : ¬ nI b ≥ nI cnt := c_ge (by omega) (by omega)
    rw [f_X8_named_74, if_neg le, t0, h85, if_neg ge, hat b (by omega), r_b1]
    by_cases q : C b = nm
    · have ef : fnd C nm (m + 1) b = some b := if_pos q
      rw [ef, if_pos q, if_neg (show ¬ (1 : Int32) = 0 by decide)]
      refine ⟨fun b' e => ?_, fun e => (by cases e)⟩
      injection e with e
      rw [e]
    · have ef : fnd C nm (m + 1) b = fnd C nm m (b + 1) := if_neg q
      rw [ef, if_neg q, if_pos rfl, let_eq, nI_1 b]
      exact ih (b + 1) n' (by omega) (by omega)
theorem fnd_le {C : Nat → Int32} {v : Int32} : ∀ m b b', fnd C v m b = some b' → b ≤ b' ∧ b' < b + m
  | 0, b, b', h => by cases h
  | m + 1, b, b', h => by
    have h : (if C b = v then some b else fnd C v m (b + 1)) = some b' := h
    by_cases q : C b = v
    · rw [if_pos q] at h
      injection h with h
      omega
    · rw [if_neg q] at h
      have := fnd_le m (b + 1) b' h
      omega
theorem fnd_n {C : Nat → Int32} {v : Int32} : ∀ m b, (∀ x, b ≤ x → x < b + m → C x ≠ v) → fnd C v m b = none
  | 0, _, _ => rfl
  | m + 1, b, h => by
    show (if C b = v then some b else fnd C v m (b + 1)) = none
    rw [if_neg (h b (Nat.le_refl b) (by omega))]
    exact fnd_n m (b + 1) (fun x h1 h2 => h x (by omega) (by omega))
theorem rnT_at {D : Nat → Nat} {P : Nat → Bool} : ∀ m p e, p ≤ e → e ≤ p + m → (∀ i, p ≤ i → i < e → P (D i) = true) → (e < p + m → ¬ P (D e) = true) → rnT D P m p = e
  | 0, p, e, h1, h2, _, _ => by
    show p = e
    omega
  | m + 1, p, e, h1, h2, h3, h4 => by
    show (if P (D p) = true then rnT D P m (p + 1) else p) = e
    by_cases z : p = e
    · subst z
      rw [if_neg (h4 (by omega))]
    · rw [if_pos (h3 p (Nat.le_refl p) (by omega))]
      exact rnT_at m (p + 1) e (by omega) (by omega) (fun i a b => h3 i (by omega) b) (fun a => h4 (by omega))
-- a trimmed piece that is a word is the only token
theorem one_word {N t : Nat} {D : Nat → Nat} (hf : tq N D 0 < t) (ht : t ≤ N) (hs : ∀ i, t ≤ i → i < N → D i = 32) (h6 : t - tq N D 0 ≤ 6) (hl : ∀ i, tq N D 0 ≤ i → i < t → isL (D i) = true) : tk N D 0 = 0 ∧ te N D 0 = t ∧ tk N D (te N D 0) = 3 := by
  have l0 := hl (tq N D 0) (Nat.le_refl _) hf
  have te0 : te N D 0 = t := by
    unfold te
    rw [if_pos (by omega), if_pos l0]
    refine rnT_at _ _ _ (by omega) (by omega) hl (fun z n => ?_)
    have a := isL_i.mp n
    rw [hs t (Nat.le_refl t) (by omega)] at a
    omega
  have k0 : tk N D 0 = 0 := by
    unfold tk
    rw [if_pos (by omega), if_pos l0, te0, if_pos h6]
  have q1 : tq N D t = N := by
    unfold tq
    exact rnT_at _ _ _ (by omega) (by omega) (fun i a b => isS_i.mpr (hs i a b)) (fun z => by omega)
  refine ⟨k0, te0, ?_⟩
  rw [te0]
  unfold tk
  rw [q1, if_neg (Nat.lt_irrefl N)]

def OW (N : Nat) (D : Nat → Nat) : Int32 := if tk N D 0 = 0 ∧ tk N D (te N D 0) = 3 then nI (r_code (tw N D 0)) else -1
theorem tk_3 {N p : Nat} {D : Nat → Nat} (hp : p ≤ N) (h : tk N D p = 3) : tq N D p = N := by
  have q := tq_le (D := D) hp
  by_cases z : tq N D p < N
  · unfold tk at h
    rw [if_pos z] at h
    split at h
    · split at h <;> cases h
    · split at h
      · split at h <;> cases h
      · split at h <;> cases h
  · omega
theorem M_go {N cnt : Nat} {D : Nat → Nat} {C : Nat → Int32} {J : e_I} (hN : N ≤ 500) (hm : mT J N D) (hc : cnt ≤ 9) (h85 : J 85 0 = nI cnt) (hr : ∀ b, b < cnt → r_name C (J 87) b) : (∀ b, fnd C (OW N D) cnt 0 = some b → f_X8_named_24 0 (nI N) J = some (nI b, J)) ∧ (fnd C (OW N D) cnt 0 = none → f_X8_named_24 0 (nI N) J = some (0, e_ui J 83 0 1)) := by
  have q := tq_le (D := D) (Nat.zero_le N)
  have e24 : ∃ t, f_X8_named_24 0 (nI N) J = f_X8_named_74 (nI (tq N D 0)) (nI t) (fun I => some (0, e_ui I 83 0 1)) (fun v I => some (v, I)) e_FU (nI 0) J ∧ tq N D 0 ≤ t ∧ t ≤ N ∧ (∀ i, t ≤ i → i < N → D i = 32) ∧ (tq N D 0 < t → D (t - 1) ≠ 32) := by
    obtain ⟨t, e, a, b, c, d⟩ := M_n47 (f := tq N D 0) hN hm (k71 := fun v3 I4 => f_X8_named_74 (nI (tq N D 0)) v3 (fun I => some (0, e_ui I 83 0 1)) (fun v I => some (v, I)) e_FU (nI 0) I4) (N - tq N D 0) e_FU (by omega) (wp_FU (by omega))
    have z : tq N D 0 + (N - tq N D 0) = N := by omega
    rw [z] at e b c
    exact ⟨t, (M_n25 hN hm N 0 e_FU (by omega) (wp_FU (by omega))).trans e, a, b, c, d⟩
  obtain ⟨t, e24, ft, tN, sp, nsp⟩ := e24
  have cm : ∀ b, b < cnt → C b ≠ -1 := fun b hb n => by
    obtain ⟨w, hw, e, _⟩ := hr b hb
    have := code_lt hw
    exact nI_m1 (a := r_code w) (by omega) (e.symm.trans n)
  by_cases lt : tq N D 0 < t
  · have hat : ∀ b, b < cnt → f_X8_isAt 87 ((6 : Int32) * nI b) (nI (tq N D 0)) (nI t) J = some (if C b = OW N D then 1 else 0) := fun b hb => by
      by_cases A : tk N D 0 = 0 ∧ tk N D (te N D 0) = 3
      · have te0 := te_le (D := D) (Nat.zero_le N)
        have q3 := tk_3 te0.2 A.2
        obtain ⟨w1, w2, w3, w4, w5⟩ := tok_word A.1
        have ow : OW N D = nI (r_code (tw N D 0)) := if_pos A
        have et : t = te N D 0 := by
          rcases Nat.lt_trichotomy t (te N D 0) with z | z | z
          · have a := w4 (te N D 0 - tq N D 0 - 1) (by omega)
            have b := sp (te N D 0 - 1) (by omega) (by omega)
            rw [show tq N D 0 + (te N D 0 - tq N D 0 - 1) = te N D 0 - 1 by omega, b] at a
            cases a
          · exact z
          · have a := rnT_in (D := D) (P := isS) (N - te N D 0) (te N D 0) (t - 1) (by omega) (by
              have e : rnT D isS (N - te N D 0) (te N D 0) = N := q3
              omega)
            exact absurd (isS_i.mp a) (nsp lt)
        rw [et, ow]
        exact M_atTok (Or.inl rfl) hN hm (Nat.zero_le N) A.1 (by omega) (hr b hb)
      · have ow : OW N D = -1 := if_neg A
        rw [ow, if_neg (cm b hb)]
        obtain ⟨w, hw, _, row⟩ := hr b hb
        rcases M_isAt (Or.inl rfl) hN hm ft tN (by omega) hw row with ⟨⟨s1, s2⟩, _⟩ | ⟨_, e⟩
        · have o := one_word (D := D) lt tN sp (by have := hw.2.1; omega) (fun i a b => by
            have k := s2 (i - tq N D 0) (by omega)
            rw [show tq N D 0 + (i - tq N D 0) = i by omega] at k
            have m := hw.2.2 _ (gd_mem w (i - tq N D 0) (by omega))
            exact isL_i.mpr (by omega))
          exact absurd ⟨o.1, o.2.2⟩ A
        · exact e
    have h := M_n74 hc h85 lt (by omega) hat (k117 := fun I => some (0, e_ui I 83 0 1)) (k108 := fun v I => some (v, I)) cnt 0 e_FU (by omega) (wp_FU (by omega))
    rw [e24]
    exact h
  · have tt : t = tq N D 0 := by omega
    have tqN : tq N D 0 = N := by
      by_cases z : tq N D 0 < N
      · have a := rnT_end (D := D) (P := isS) (N - 0) 0 (by
          show tq N D 0 < 0 + (N - 0)
          omega)
        exact absurd (isS_i.mpr (sp (tq N D 0) (by omega) z)) a
      · omega
    have ow : OW N D = -1 := if_neg (fun n => by
      have := (tok_word n.1).1
      omega)
    have fn : fnd C (OW N D) cnt 0 = none := fnd_n cnt 0 (fun x _ h2 => by
      rw [ow]
      exact cm x (by omega))
    refine ⟨fun b e => ?_, fun _ => ?_⟩
    · rw [fn] at e
      cases e
    · rw [e24, tt]
      have le : nI (tq N D 0) ≤ nI (tq N D 0) := Int32.le_refl _
      show f_X8_named_74 (nI (tq N D 0)) (nI (tq N D 0)) (fun I => some (0, e_ui I 83 0 1)) (fun v I => some (v, I)) (999999 + 1) (nI 0) J = _
      rw [f_X8_named_74, if_pos le]
theorem nm_go {I1 : e_I} {a1 nm : Int32} {cnt N : Nat} {D : Nat → Nat} (e24 : f_X8_named a1 I1 = f_X8_named_24 0 (nI N) (e_ui I1 83 0 0)) (hN : N ≤ 500) (hm : mT I1 N D) (hnm : nm = OW N D) (hc : cnt ≤ 9) (h85 : I1 85 0 = nI cnt) (hr : ∀ b, b < cnt → r_name (I1 8) (I1 87) b) : ∃ J, (∀ b, fnd (I1 8) nm cnt 0 = some b → b ≤ 9 ∧ f_X8_named a1 I1 = some (nI b, J) ∧ J 83 0 = 0) ∧ (fnd (I1 8) nm cnt 0 = none → ∃ v, f_X8_named a1 I1 = some (v, J) ∧ J 83 0 = 1) ∧ fr (fun a i => a = 83 ∧ i = 0) I1 J := by
  have r87 : (e_ui I1 83 0 0) 87 = I1 87 := funext fun i => ui_a (by decide)
  have g := M_go (C := I1 8) (J := e_ui I1 83 0 0) hN (mT_fr (fun i => ui_a (by decide)) hm) hc ((ui_a (by decide)).trans h85) (fun b hb => by rw [r87]; exact hr b hb)
  have f0 : fr (fun a i => a = 83 ∧ i = 0) I1 (e_ui I1 83 0 0) := fr_ui ⟨rfl, rfl⟩
  rw [← e24, ← hnm] at g
  cases hf : fnd (I1 8) nm cnt 0 with
  | some bb =>
    refine ⟨e_ui I1 83 0 0, fun b e => ?_, fun e => (by cases e), f0⟩
    injection e with e
    subst e
    have := fnd_le _ _ _ hf
    exact ⟨by omega, g.1 bb hf, ui_s⟩
  | none => exact ⟨e_ui (e_ui I1 83 0 0) 83 0 1, fun b e => (by cases e), fun _ => ⟨0, g.2 hf, ui_s⟩, fr_tr f0 (fr_ui ⟨rfl, rfl⟩)⟩

theorem T_named (t : Nat) (ht : t < 600) : ST_nm (Rl t) (Rl (t + 1)) := by
  intro a1 I L h
  obtain ⟨m0, m1, m2⟩ := r_many h.2.2.1
  obtain ⟨ec, hc⟩ := nI_rn (n := 9) m1 m2 rfl
  have hr : ∀ b, b < r_n (I 85 0) → r_name (I 8) (I 87) b := by
    by_cases q : I 83 6 = 0
    · rcases h.2.2.1 with ⟨_, _, z⟩ | ⟨z, _⟩
      · intro b hb
        rw [z, show r_n 0 = 0 from rfl] at hb
        omega
      · rw [q] at z
        exact absurd z (by decide)
    · exact (h.2.2.2.2.2.1 q).2
  generalize r_n (I 85 0) = cnt at ec hc hr
  have core : ∃ nm I1, nmN a1 I nm I1 ∧ fr (fun a i => a = 1 ∧ (i = 5 ∨ (9 ≤ i ∧ i ≤ 13))) I I1 ∧ ∃ N D, N ≤ 500 ∧ mT I1 N D ∧ nm = OW N D ∧ f_X8_named a1 I1 = f_X8_named_24 0 (nI N) (e_ui I1 83 0 0) := by
    by_cases hv : 0 ≤ a1 ∧ a1 ≤ I 1 3
    · obtain ⟨N, e, hN, c, m, _, hl⟩ := text_in h.2.1 hv
      subst e
      obtain ⟨I1, e1, f1⟩ := C_only hN c hl
      refine ⟨_, I1, Or.inl ⟨hv.1, hv.2, e1⟩, f1, N, _, hN, mT_fr (fun i => f1 84 i (fun z => by cases z.1)) m, rfl, ?_⟩
      have s5 : e_ui I1 83 0 0 83 5 = I 1 3 := (ui_i (by decide)).trans ((f1 83 5 (fun z => by cases z.1)).trans h.2.1.1.1.symm)
      unfold f_X8_named
      rw [let_eq, r_in, s5, if_pos hv, r_b1, if_neg (show ¬ (1 : Int32) = 0 by decide)]
    · refine ⟨-1, I, Or.inr ⟨hv, rfl, rfl⟩, fr_rfl, 0, fun _ => 0, by omega, fun i hi => (by omega), rfl, ?_⟩
      have s5 : e_ui I 83 0 0 83 5 = I 1 3 := (ui_i (by decide)).trans h.2.1.1.1.symm
      unfold f_X8_named
      rw [let_eq, r_in, s5, if_neg hv, r_b1, if_pos rfl]
      rfl
  obtain ⟨nm, I1, n1, f1, N, D, hN, hm, hnm, e24⟩ := core
  have q1 : ∀ a i, a ≠ 1 → I1 a i = I a i := fun a i hz => f1 a i (fun z => hz z.1)
  have r8 : I1 8 = I 8 := funext fun i => q1 8 i (by decide)
  have r87 : I1 87 = I 87 := funext fun i => q1 87 i (by decide)
  obtain ⟨J, g1, g2, fJ⟩ := nm_go e24 hN hm hnm hc ((q1 85 0 (by decide)).trans ec) (fun b hb => by rw [r8, r87]; exact hr b hb)
  have sl : sameL I J := fun a i l => by
    rw [fJ a i (fun z => by
      obtain ⟨z, w⟩ := z
      subst z
      subst w
      cases (show false = true from l)), f1 a i (fun z => by
      obtain ⟨z, w⟩ := z
      subst z
      have l : (i == 3) = true := l
      have := eq_of_beq l
      omega)]
  have j11 : J 11 5 = 0 := (fJ 11 5 (fun z => by cases z.1)).trans ((q1 11 5 (by decide)).trans h.2.2.2.2.1.1)
  exact ⟨nm, I1, J, cnt, n1, hc, (q1 23 0 (by decide)).trans (m0.trans ec), g1, g2, Rl_mono (Nat.le_succ t) (Rl_keep h sl j11 h.2.2.2.2.1.2), fun x => Rl_mono (Nat.le_succ t) (Rl_keep h sl j11 (c_Z_fr (fun i => if_neg (by decide)) (fun i => if_neg (by decide)) h.2.2.2.2.1.2))⟩
