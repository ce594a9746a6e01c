-- BETTER: the model's half, and both
def m_S5 (a i : Nat) : Prop := m_S4 a i ∨ a = 93
def MK (c s d f sl ti : Nat) (CH : Nat → Nat → Nat) (O : Nat → Nat) (J : e_I) : Prop := MV J c s d f sl ti CH ∧ ∀ i, i < c → J 85 (60 + i) = nI (O i)
theorem S5_85 {I J : e_I} (h : fr m_S5 I J) : ∀ i, J 85 i = I 85 i := fun i => h 85 i (fun z => by rcases z with (z | z | z) | z <;> omega)
theorem MK_5 {c s d f sl ti : Nat} {CH : Nat → Nat → Nat} {O : Nat → Nat} {I J : e_I} (h : fr m_S5 I J) (k : MK c s d f sl ti CH O I) : MK c s d f sl ti CH O J := ⟨MV_85 (S5_85 h) k.1, fun i hi => (S5_85 h _).trans (k.2 i hi)⟩
theorem M_wEx {J : e_I} {M : e_L} {c s d f sl ti K i j : Nat} {CH : Nat → Nat → Nat} {O : Nat → Nat} (hn : NV c s d f sl ti CH) (hO : ∀ i, i < c → O i < c) (kc : MK c s d f sl ti CH O J) (hk : K ≤ 5) (hi : i < c) (hj : j < c) : ∃ J2 J3 J4 M4, f_X8_lays 93 85 0 60 (nI c) J = some J2 ∧ f_X8_changes 93 (nI i) (nI j) J2 = some J3 ∧ f_X8_worthOf 93 0 (nI K) J3 M = some (lN (LV s d f c sl ti 0 K 0 0 CH (swO O i j) K 0), J4, M4) ∧ fr m_S5 J J4 ∧ frL mL M M4 := by
  have c9 := hn.1.2
  have l85 : e_ln 85 = 396 := rfl
  have l93 : 9 ≤ e_ln 93 := by decide
  obtain ⟨J2, e2, f2, c2⟩ := M_lays (I := J) (a0 := 93) (a2 := 85) (x := 0) (y := 60) (n := c) (by decide) (by omega) (by rw [l85]; omega) (by omega) (by omega)
  obtain ⟨J3, e3, f3, c3⟩ := M_changes (I := J2) (a1 := 93) (x := i) (y := j) (by omega) (by omega) (by omega) (by omega)
  have o3 : ∀ a k, a ≠ 93 → J3 a k = J a k := fun a k z => (f3 a k z).trans (f2 a k (fun q => z q.1))
  have mo : ∀ k, k < c → J3 93 (0 + k) = nI (swO O i j k) ∧ swO O i j k < c := fun k hk => by
    refine ⟨?_, hO _ (tau_lt hi hj hk)⟩
    have z := c2 (tau i j k) (tau_lt hi hj hk)
    rw [Nat.zero_add] at z ⊢
    rw [c3, z]
    exact kc.2 _ (tau_lt hi hj hk)
  obtain ⟨⟨r, J4, M4⟩, e4, u1, u2, u3, _⟩ := M_worth (I := J3) (L := M) (at0 := 0) (MV_85 (fun k => o3 85 k (by decide)) kc.1) hn (Or.inr rfl) (by omega) (by decide) mo hk
  have u1 : r = _ := u1
  have u2 : fr m_S4 J3 J4 := u2
  refine ⟨J2, J3, J4, M4, e2, e3, ?_, fun a k z => ?_, mL_S u3⟩
  · rw [← u1]
    exact e4
  · rw [u2 a k (fun y => z (Or.inl y)), o3 a k (fun y => z (Or.inr y))]
theorem M_bI {c s d f sl ti K i : Nat} {CH : Nat → Nat → Nat} {O : Nat → Nat} {w : Nat → Nat → Nat} (hn : NV c s d f sl ti CH) (hO : ∀ i, i < c → O i < c) (hw : ∀ x y, x < c → y < c → w x y = LV s d f c sl ti 0 K 0 0 CH (swO O x y) K 0 ∧ w x y < 2 ^ 62) (hk : K ≤ 5) (hi : i < c) {k87 : Int64 → Int32 → Int32 → e_I → e_L → Option (Int32 × e_I × e_L)} {Q : Int32 × e_I × e_L → Prop} : ∀ m j s0 n I L, j + m = c → m < n → MK c s d f sl ti CH O I → s0.1 < 2 ^ 62 → (∀ I' L', MK c s d f sl ti CH O I' → fr m_S5 I I' → frL mL L L' → wp (k87 (lN (bI w i m j s0).1) (e1 (bI w i m j s0).2) (e2 (bI w i m j s0).2) I' L') Q) → wp (f_X8_betters_38 (nI K) (nI i) k87 n (lN s0.1) (e1 s0.2) (e2 s0.2) (nI j) I L) Q := by
  have c9 := hn.1.2
  have t0 : (0 : Int32).toNatClampNeg = 0 := rfl
  intro m
  induction m with
  | zero =>
    intro j s0 n I L h0 hm kc hs kk
    obtain ⟨n', rfl⟩ : ∃ k, n = k + 1 := ⟨n - 1, by omega⟩
    have h0 : j = c := h0
    subst h0
    unfold f_X8_betters_38
    rw [t0, kc.1.1]
    exact wp_t (nI_le (Nat.le_refl j) (by omega)) (kk I L kc fr_rfl frL_rfl)
  | succ m ih =>
    intro j s0 n I L h0 hm kc hs kk
    obtain ⟨n', rfl⟩ : ∃ k, n = k + 1 := ⟨n - 1, by omega⟩
    have hj : j < c := by omega
    obtain ⟨w1, w2⟩ := hw i j hi hj
    obtain ⟨J2, J3, J, M, x2, x3, x4, j2, j3⟩ := M_wEx (M := L) hn hO kc hk hi hj
    rw [← w1] at x4
    unfold f_X8_betters_38
    rw [t0, kc.1.1]
    refine wp_f (c_ge hj (by omega)) (wp_e1 x2 (wp_e1 x3 (wp_e3 x4 ?_)))
    have kJ := MK_5 j2 kc
    have le : lg_cmp (lN (w i j)) (lN s0.1) ≤ 0 ↔ w i j ≤ s0.1 := lN_cmp (by omega) (by omega)
    refine wp_c (fun z => ?_) (fun z => ?_)
    · have e : bS w i j s0 = s0 := if_pos (le.mp z)
      unfold f_X8_betters_111
      refine wp_let ?_
      rw [nI_1 j]
      refine ih (j + 1) s0 n' J M (by omega) (by omega) kJ hs (fun I' L' k' f' g' => ?_)
      have := kk I' L' k' (fr_tr j2 f') (frL_tr j3 g')
      rw [show bI w i (m + 1) j s0 = bI w i m (j + 1) (bS w i j s0) from rfl, e] at this
      exact this
    · have e : bS w i j s0 = (w i j, some (i, j)) := if_neg (fun n => z (le.mpr n))
      unfold f_X8_betters_111
      refine wp_let ?_
      rw [nI_1 j]
      refine ih (j + 1) (w i j, some (i, j)) n' J M (by omega) (by omega) kJ w2 (fun I' L' k' f' g' => ?_)
      have := kk I' L' k' (fr_tr j2 f') (frL_tr j3 g')
      rw [show bI w i (m + 1) j s0 = bI w i m (j + 1) (bS w i j s0) from rfl, e] at this
      exact this
theorem M_bO {c s d f sl ti K : Nat} {CH : Nat → Nat → Nat} {O : Nat → Nat} {w : Nat → Nat → Nat} (hn : NV c s d f sl ti CH) (hO : ∀ i, i < c → O i < c) (hw : ∀ x y, x < c → y < c → w x y = LV s d f c sl ti 0 K 0 0 CH (swO O x y) K 0 ∧ w x y < 2 ^ 62) (hk : K ≤ 5) {k93 : Int32 → Int32 → e_I → e_L → Option (Int32 × e_I × e_L)} {Q : Int32 × e_I × e_L → Prop} : ∀ m i s0 n I L, i + m = c → m < n → MK c s d f sl ti CH O I → bW c 0 s0 → (∀ I' L', MK c s d f sl ti CH O I' → fr m_S5 I I' → frL mL L L' → wp (k93 (e1 (bO w c m i s0).2) (e2 (bO w c m i s0).2) I' L') Q) → wp (f_X8_betters_21 (nI K) k93 n (lN s0.1) (e1 s0.2) (e2 s0.2) (nI i) I L) Q := by
  have c9 := hn.1.2
  have t0 : (0 : Int32).toNatClampNeg = 0 := rfl
  intro m
  induction m with
  | zero =>
    intro i s0 n I L h0 hm kc hs kk
    obtain ⟨n', rfl⟩ : ∃ k, n = k + 1 := ⟨n - 1, by omega⟩
    have h0 : i = c := h0
    subst h0
    unfold f_X8_betters_21
    rw [t0, kc.1.1]
    exact wp_t (nI_le (Nat.le_refl i) (by omega)) (kk I L kc fr_rfl frL_rfl)
  | succ m ih =>
    intro i s0 n I L h0 hm kc hs kk
    obtain ⟨n', rfl⟩ : ∃ k, n = k + 1 := ⟨n - 1, by omega⟩
    have hi : i < c := by omega
    unfold f_X8_betters_21
    rw [t0, kc.1.1]
    refine wp_f (c_ge hi (by omega)) (wp_let ?_)
    rw [nI_1 i]
    refine M_bI hn hO hw hk hi (c - (i + 1)) (i + 1) s0 e_FU I L (by omega) (wp_FU (by omega)) kc hs.2.1 (fun I' L' k' f' g' => wp_let ?_)
    refine ih (i + 1) (bI w i (c - (i + 1)) (i + 1) s0) n' I' L' (by omega) (by omega) k' ?_ (fun I2 L2 k2 f2 g2 => kk I2 L2 k2 (fr_tr f' f2) (frL_tr g' g2))
    exact bI_P (c := c) (bW c 0) (fun j s hij hj hs => bW_S (hw i j hi hj).2 hij hj hs) _ _ _ (by omega) (by omega) hs
def bF (a i : Nat) : Prop := m_S5 a i ∨ (a = 85 ∧ 60 ≤ i ∧ i < 69)
theorem M_imp {I : e_I} {L : e_L} {c s d f sl ti K : Nat} {CH : Nat → Nat → Nat} {O : Nat → Nat} {w : Nat → Nat → Nat} {w0 : Nat} (hn : NV c s d f sl ti CH) (hO : ∀ i, i < c → O i < c) (hw : ∀ x y, x < c → y < c → w x y = LV s d f c sl ti 0 K 0 0 CH (swO O x y) K 0 ∧ w x y < 2 ^ 62) (hw0 : w0 = LV s d f c sl ti 0 K 0 0 CH O K 0 ∧ w0 < 2 ^ 62) (hk : K ≤ 5) (kc : MK c s d f sl ti CH O I) : wp (f_X8_betters (nI K) I L) (fun q => q.1 = rB (bO w c c 0 (w0, none)).2 ∧ MK c s d f sl ti CH (oB O (bO w c c 0 (w0, none)).2) q.2.1 ∧ fr bF I q.2.1 ∧ frL mL L q.2.2) := by
  have c9 := hn.1.2
  have l85 : e_ln 85 = 396 := rfl
  have P : bW c 0 (bO w c c 0 (w0, none)) := bO_P (c := c) (bW c 0) (fun i j s hij hj hs => bW_S (hw i j (by omega) hj).2 hij hj hs) _ _ _ (by omega) ⟨Nat.zero_le _, hw0.2, fun q e => by cases e⟩
  unfold f_X8_betters
  refine wp_c3 (M_worth (at0 := 60) kc.1 hn (Or.inl rfl) (show 60 + c ≤ 396 by omega) (by decide) (fun i hi => ⟨kc.2 i hi, hO i hi⟩) hk) (fun r J M hJ => ?_)
  obtain ⟨j1, j2, j3, _⟩ := hJ
  have j1 : r = lN w0 := by
    rw [hw0.1]
    exact j1
  have j2 : fr m_S5 I J := fr_mono (fun a i z => Or.inl z) j2
  have j3 : frL mL L M := mL_S j3
  have kJ := MK_5 j2 kc
  show wp (f_X8_betters_21 (nI K) _ e_FU r (e1 none) (e2 none) (nI 0) J M) _
  rw [j1]
  refine M_bO hn hO hw hk c 0 (w0, none) e_FU J M (by omega) (wp_FU (by omega)) kJ ⟨Nat.zero_le _, hw0.2, fun q e => by cases e⟩ (fun I' L' k' f' g' => ?_)
  have fI : fr m_S5 I I' := fr_tr j2 f'
  have gL : frL mL L L' := frL_tr j3 g'
  generalize bO w c c 0 (w0, none) = S at P ⊢
  obtain ⟨v, p⟩ := S
  cases p with
  | none =>
    refine wp_t rfl ?_
    unfold f_X8_betters_147 f_X8_betters_158
    exact wp_t rfl (wp_as (Or.inl rfl) (wp_some ⟨rfl, k', fr_mono (fun a i z => Or.inl z) fI, gL⟩))
  | some q =>
    obtain ⟨q1, q2⟩ := P.2.2 q rfl
    have ne : ¬ nI q.1 = -1 := nI_m1 (by omega)
    refine wp_f ne ?_
    show wp (e_b1 (f_X8_changes 85 ((60 : Int32) + nI q.1) ((60 : Int32) + nI q.2) I') _) _
    rw [n60, nI_add, nI_add]
    refine wp_c1 (M_changes (a1 := 85) (x := 60 + q.1) (y := 60 + q.2) (by rw [l85]; omega) (by rw [l85]; omega) (by omega) (by omega)) (fun E hE => ?_)
    obtain ⟨f0, f1⟩ := hE
    have o : ∀ i, i < 60 ∨ 69 ≤ i → E 85 i = I' 85 i := fun i hi => by rw [f1, tau_o (by omega) (by omega)]
    have mv := k'.1
    unfold f_X8_betters_147 f_X8_betters_158
    refine wp_f ne (wp_as (Or.inr rfl) (wp_some ⟨rfl, ⟨⟨(o 0 (by omega)).trans mv.1, ⟨(o 1 (by omega)).trans mv.2.1.1, (o 2 (by omega)).trans mv.2.1.2.1, (o 3 (by omega)).trans mv.2.1.2.2⟩, (o 4 (by omega)).trans mv.2.2.1, (o 5 (by omega)).trans mv.2.2.2.1, fun x1 hx1 x2 hx2 => (o _ (by omega)).trans (mv.2.2.2.2 x1 hx1 x2 hx2)⟩, fun k hk => ?_⟩, fun a i z => ?_, gL⟩))
    · show E 85 (60 + k) = nI (O (tau q.1 q.2 k))
      rw [f1, tau_60]
      exact k'.2 _ (tau_lt (show q.1 < c by omega) q2 hk)
    · show E a i = I a i
      by_cases y : a = 85
      · subst y
        rw [o i (by
          rcases Nat.lt_or_ge i 60 with x | x
          · exact Or.inl x
          · rcases Nat.lt_or_ge i 69 with x2 | x2
            · exact absurd (Or.inr ⟨rfl, x, x2⟩) z
            · exact Or.inr x2), S5_85 fI]
      · rw [f0 a i y, fI a i (fun n => z (Or.inl n))]
-- both find the same
theorem b_same {c s d f sl ti K : Nat} {CH : Nat → Nat → Nat} {O : Nat → Nat} {w : Nat → Nat → Nat} {w0 : Nat} (hw : ∀ x y, x < c → y < c → w x y = LV s d f c sl ti 0 K 0 0 CH (swO O x y) K 0 ∧ w x y < 2 ^ 62) (hw0 : w0 = LV s d f c sl ti 0 K 0 0 CH O K 0 ∧ w0 < 2 ^ 62) : bO w c c 0 (w0, none) = bO w c (min c K) 0 (w0, none) := by
  have P : bW c w0 (bO w c (min c K) 0 (w0, none)) := bO_P (c := c) (bW c w0) (fun i j s hij hj hs => bW_S (hw i j (by omega) hj).2 hij hj hs) _ _ _ (by omega) ⟨Nat.le_refl _, hw0.2, fun q e => by cases e⟩
  have sp : bO w c (min c K + (c - min c K)) 0 (w0, none) = bO w c (c - min c K) (0 + min c K) (bO w c (min c K) 0 (w0, none)) := bO_add _ _ _
  rw [show min c K + (c - min c K) = c by omega, Nat.zero_add] at sp
  rw [sp]
  rcases Nat.lt_or_ge c K with hK | hK
  · rw [show c - min c K = 0 by omega]
    rfl
  · refine bO_same (K := K) (fun i j hi hij hj => ?_) _ _ (by omega) (by omega)
    have e : w i j = w0 := by
      rw [(hw i j (by omega) hj).1, hw0.1]
      refine congrFun (LV_congr (O := swO O i j) (O' := O) (fun x hx => ?_) K (Nat.le_refl K)) 0
      have le : (0 + x) % c ≤ 0 + x := Nat.mod_le _ _
      show O (tau i j ((0 + x) % c)) = _
      rw [tau_o (by omega) (by omega)]
    rw [e]
    exact P.1
