-- BEST: the class's middle loop
def rowV (s d f u ti : Nat) (CH : Nat → Nat → Nat) (V : Nat → Nat) (b p : Nat) (st : Nat) : Nat := if st < 24 then sH s d f false u V (sh1 ti CH b p) st else 0
def SX (g c s d f sl ti : Nat) (CH : Nat → Nat → Nat) (O : Nat → Nat) (I : e_I) (L : e_L) : Prop := CV I g c s d f sl ti CH O ∧ c_T I s d f ∧ I 11 5 = 0 ∧ c_U L 20 ∧ c_Z L
theorem SX_fr {g c s d f sl ti : Nat} {CH : Nat → Nat → Nat} {O : Nat → Nat} {I J : e_I} {L M : e_L} (hg : 23 ≤ g) (hI : fr sF I J) (hL : frL sFL L M) (h : SX g c s d f sl ti CH O I L) : SX g c s d f sl ti CH O J M := by
  have e : ∀ a i, a ≠ 17 → a ≠ 19 → J a i = I a i := fun a i x y => hI a i (fun z => by rcases z with z | z <;> omega)
  have l : ∀ a i, a ≠ 19 → M a i = L a i := fun a i x => hL a i x
  obtain ⟨h1, h2, h3, h4, h5⟩ := h
  exact ⟨CV_fr (fun i => e _ i (by omega) (by omega)) (fun i => e _ i (by omega) (by omega)) (fun i => e _ i (by omega) (by omega)) (fun i => e _ i (by omega) (by omega)) h1, c_T_fr (fun i => e 13 i (by decide) (by decide)) (fun i => e 14 i (by decide) (by decide)) h2, (e 11 5 (by decide) (by decide)).trans h3, fun j hj => (l 16 j (by decide)).trans (h4 j hj), c_Z_fr (fun i => l 15 i (by decide)) (fun i => l 18 i (by decide)) h5⟩
theorem C_reck {g c s d f sl ti b p K : Nat} {CH : Nat → Nat → Nat} {O V : Nat → Nat} {I : e_I} {L : e_L} (hg : 23 ≤ g) (hn : NV c s d f sl ti CH) (hb : b < c) (hp : p < K) (hK : K ≤ 3) (sx : SX g c s d f sl ti CH O I L) (hV : c_R L (K - p - 1) V) : wp (f_X3_reckon g (nI b) (nI p) (nI K) I L) (fun q => fr c_S17 I q.1 ∧ frL (c_SR (K - p)) L q.2 ∧ SX g c s d f sl ti CH O q.1 q.2 ∧ c_R q.2 (K - p) (rowV s d f (20 ^ (K - p - 1)) ti CH V b p)) := by
  obtain ⟨h1, h2, h3, h4, h5⟩ := id sx
  unfold f_X3_reckon f_X3_reckon_24
  refine wp_f (c_ge hp (by omega)) (wp_c1 (C_sendUp hg h1 hn hb (by omega)) (fun J hJ => ?_))
  obtain ⟨j1, j2⟩ := hJ
  have jF : fr sF I J := fr_mono (fun x i z => Or.inl z) j1
  have sJ := SX_fr hg jF (frL_rfl (I := L)) sx
  have e : nI K - nI p = nI (K - p) := nI_sub (by omega)
  rw [e]
  refine wp_c1 (C_fillRow (j := K - p) (any := false) hn.2.1 sJ.2.1 sJ.2.2.1 (fun x hx => ⟨j2 x hx, sh1_lt hn hb hx⟩) (h4 (K - p - 1) (by omega)) hV (by omega) (by omega)) (fun M hM => wp_some ⟨j1, hM.1, ?_, ?_⟩)
  · obtain ⟨m1, m2⟩ := hM
    refine ⟨sJ.1, sJ.2.1, sJ.2.2.1, fun j hj => ?_, c_Z_fill (j := K - p) (by omega) (fun a i _ z => m1 a i z) h5⟩
    exact (m1 16 j (fun z => by cases z.1)).trans (h4 j hj)
  · obtain ⟨m1, m2⟩ := hM
    intro q hq
    show M 15 ((K - p) * 25 + q) = lN (rowV s d f (20 ^ (K - p - 1)) ti CH V b p q)
    unfold rowV
    by_cases y : q < 24
    · rw [if_pos y]
      exact m2 q y
    · have y2 : q = 24 := by omega
      subst y2
      rw [if_neg y, m1 15 _ (fun z => by
        have := z.2
        omega)]
      exact h5.2.1 (K - p) (by omega)
abbrev pb (K c b e : Nat) : Prop := K < 3 ∨ (1 % c = 0 ↔ b = e)
theorem S_57 {g K c b e n : Nat} {I : e_I} {L : e_L} {k191 : e_I → e_L → Option (e_I × e_L)} (hK1 : 1 ≤ K) (hK3 : K ≤ 3) (hb : b < if K ≤ 1 then 1 else c) (hc0 : 0 < c) (hc : c ≤ 9) (he : e < 9) : f_X3_seek_57 g (nI K) (nI c) (nI e) k191 (n + 1) (nI b) I L = if pb K c b e then f_X3_seek_95 g (nI K) (nI c) (nI e) (fun v6 I L => f_X3_seek_57 g (nI K) (nI c) (nI e) k191 n v6 I L) k191 (nI b) I L else f_X3_seek_185 g (nI K) (nI c) (nI e) (fun v6 I L => f_X3_seek_57 g (nI K) (nI c) (nI e) k191 n v6 I L) k191 (nI b) I L := by
  have cs : K = 1 ∨ K = 2 ∨ K = 3 := by omega
  rw [f_X3_seek_57]
  unfold f_X3_seek_70
  rcases cs with rfl | rfl | rfl
  · rw [if_pos (by decide)] at hb
    have b0 : b = 0 := by omega
    subst b0
    rw [if_pos (show nI 1 ≤ 1 by decide), if_neg (show ¬ nI 0 ≥ 1 by decide), if_pos (show nI 1 ≤ 2 by decide), if_pos (Or.inl (by decide))]
  · rw [if_neg (by decide)] at hb
    rw [if_neg (show ¬ nI 2 ≤ 1 by decide), if_neg (c_ge hb (by omega)), if_pos (show nI 2 ≤ 2 by decide), if_pos (Or.inl (by decide))]
  · rw [if_neg (by decide)] at hb
    have f1 : f_X3_fit (nI c) 1 (nI b) (nI e) = some (if (1 % c = 0 ↔ b = e) then 1 else 0) := C_fit (p := 1) (by omega) (by omega) (by omega) (by omega) (by omega)
    rw [if_neg (show ¬ nI 3 ≤ 1 by decide), if_neg (c_ge hb (by omega)), if_neg (show ¬ nI 3 ≤ 2 by decide), f1, r_b1]
    by_cases q : (1 % c = 0 ↔ b = e)
    · rw [if_pos (show pb 3 c b e from Or.inr q), if_pos q, if_pos (by decide)]
    · rw [if_neg (show ¬ pb 3 c b e from fun z => by
        rcases z with z | z
        · omega
        · exact q z), if_neg q, if_neg (by decide)]
theorem S_57e {g K c b e n : Nat} {I : e_I} {L : e_L} {k191 : e_I → e_L → Option (e_I × e_L)} (hb : b = if K ≤ 1 then 1 else c) (hK1 : 1 ≤ K) (hK3 : K ≤ 3) (hc : c ≤ 9) : f_X3_seek_57 g (nI K) (nI c) (nI e) k191 (n + 1) (nI b) I L = k191 I L := by
  have cs : K = 1 ∨ K = 2 ∨ K = 3 := by omega
  rw [f_X3_seek_57]
  unfold f_X3_seek_70
  rcases cs with rfl | rfl | rfl
  · rw [if_pos (by decide)] at hb
    subst hb
    rw [if_pos (show nI 1 ≤ 1 by decide), if_pos (show nI 1 ≥ 1 by decide)]
  · rw [if_neg (by decide)] at hb
    subst hb
    rw [if_neg (show ¬ nI 2 ≤ 1 by decide), if_pos (nI_le (Nat.le_refl b) (by omega))]
  · rw [if_neg (by decide)] at hb
    subst hb
    rw [if_neg (show ¬ nI 3 ≤ 1 by decide), if_pos (nI_le (Nat.le_refl b) (by omega))]
