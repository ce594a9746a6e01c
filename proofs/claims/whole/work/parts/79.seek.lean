-- BEST: the class's innermost loop
abbrev pa (K c a b e : Nat) : Prop := (K < 2 ∨ (1 % c = 0 ↔ a = b)) ∧ (K < 3 ∨ (2 % c = 0 ↔ a = e))
theorem S_108 {g K c a b e n : Nat} {I : e_I} {L : e_L} {k185 : e_I → e_L → Option (e_I × e_L)} (hK1 : 1 ≤ K) (hK3 : K ≤ 3) (ha : a < c) (hc : c ≤ 9) (hb : b < 9) (he : e < 9) : f_X3_seek_108 g (nI K) (nI c) (nI e) (nI b) k185 (n + 1) (nI a) I L = if pa K c a b e then f_X3_seek_153 g (nI K) (nI c) (nI e) (nI b) (fun v7 I L => f_X3_seek_108 g (nI K) (nI c) (nI e) (nI b) k185 n v7 I L) k185 (nI a) I L else f_X3_seek_179 g (nI K) (nI c) (nI e) (nI b) (fun v7 I L => f_X3_seek_108 g (nI K) (nI c) (nI e) (nI b) k185 n v7 I L) k185 (nI a) I L := by
  have f1 : f_X3_fit (nI c) 1 (nI a) (nI b) = some (if (1 % c = 0 ↔ a = b) then 1 else 0) := C_fit (p := 1) (by omega) (by omega) (by omega) (by omega) (by omega)
  have f2 : f_X3_fit (nI c) 2 (nI a) (nI e) = some (if (2 % c = 0 ↔ a = e) then 1 else 0) := C_fit (p := 2) (by omega) (by omega) (by omega) (by omega) (by omega)
  have cs : K = 1 ∨ K = 2 ∨ K = 3 := by omega
  have lt : ¬ nI a ≥ nI c := c_ge ha (by omega)
  rw [f_X3_seek_108, if_neg lt]
  rcases cs with rfl | rfl | rfl
  · rw [if_pos (show nI 1 < 2 by decide), if_pos ⟨Or.inl (by decide), Or.inl (by decide)⟩]
    unfold f_X3_seek_134
    rw [if_pos (show nI 1 < 3 by decide)]
  · rw [if_neg (show ¬ nI 2 < 2 by decide), f1, r_b1]
    by_cases q : (1 % c = 0 ↔ a = b)
    · have p : pa 2 c a b e := ⟨Or.inr q, Or.inl (by decide)⟩
      rw [if_pos p, if_pos q, if_neg (by decide)]
      unfold f_X3_seek_134
      rw [if_pos (show nI 2 < 3 by decide)]
    · have p : ¬ pa 2 c a b e := fun z => by
        rcases z.1 with z | z
        · omega
        · exact q z
      rw [if_neg p, if_neg q, if_pos rfl]
  · rw [if_neg (show ¬ nI 3 < 2 by decide), f1, r_b1]
    by_cases q : (1 % c = 0 ↔ a = b)
    · by_cases q2 : (2 % c = 0 ↔ a = e)
      · have p : pa 3 c a b e := ⟨Or.inr q, Or.inr q2⟩
        rw [if_pos p, if_pos q, if_neg (by decide)]
        unfold f_X3_seek_134
        rw [if_neg (show ¬ nI 3 < 3 by decide), f2, r_b1, if_pos q2, if_neg (by decide)]
      · have p : ¬ pa 3 c a b e := fun z => by
          rcases z.2 with z | z
          · omega
          · exact q2 z
        rw [if_neg p, if_pos q, if_neg (by decide)]
        unfold f_X3_seek_134
        rw [if_neg (show ¬ nI 3 < 3 by decide), f2, r_b1, if_neg q2, if_pos rfl]
    · have p : ¬ pa 3 c a b e := fun z => by
        rcases z.1 with z | z
        · omega
        · exact q z
      rw [if_neg p, if_neg q, if_pos rfl]
def sW1 (s d f u ti : Nat) (CH : Nat → Nat → Nat) (V : Nat → Nat) (a : Nat) : Nat := sH s d f false u V (sh1 ti CH a 0) 0
def seen (K c b e : Nat) (w : Nat → Nat) (a : Nat) (v k : Nat) : Prop := ∃ a', a' < a ∧ pa K c a' b e ∧ v = w a' ∧ k = (a' * 9 + b) * 9 + e
def SK (g c s d f sl ti j u : Nat) (CH : Nat → Nat → Nat) (O V : Nat → Nat) (I : e_I) (L : e_L) : Prop := CV I g c s d f sl ti CH O ∧ c_T I s d f ∧ I 11 5 = 0 ∧ L 16 j = lN u ∧ c_R L j V
def sF (a _i : Nat) : Prop := a = 17 ∨ a = 19
def sFL (a _i : Nat) : Prop := a = 19
theorem SK_fr {g c s d f sl ti j u : Nat} {CH : Nat → Nat → Nat} {O V : Nat → Nat} {I J : e_I} {L M : e_L} (hg : 23 ≤ g) (hI : fr sF I J) (hL : frL sFL L M) (h : SK g c s d f sl ti j u CH O V I L) : SK g c s d f sl ti j u CH O V J M := by
  have e : ∀ a i, a ≠ 17 → a ≠ 19 → J a i = I a i := fun a i x y => hI a i (fun z => by rcases z with z | z <;> omega)
  have l : ∀ a i, a ≠ 19 → M a i = L a i := fun a i x => hL a i x
  obtain ⟨h1, h2, h3, h4, h5⟩ := h
  exact ⟨CV_fr (fun i => e _ i (by omega) (by omega)) (fun i => e _ i (by omega) (by omega)) (fun i => e _ i (by omega) (by omega)) (fun i => e _ i (by omega) (by omega)) h1, c_T_fr (fun i => e 13 i (by decide) (by decide)) (fun i => e 14 i (by decide) (by decide)) h2, (e 11 5 (by decide) (by decide)).trans h3, (l 16 j (by decide)).trans h4, fun q hq => (l 15 _ (by decide)).trans (h5 q hq)⟩
theorem C_s108 {g c s d f sl ti u K b e : Nat} {CH : Nat → Nat → Nat} {O V : Nat → Nat} {S : Nat → Nat → Prop} (hg : 23 ≤ g) (hn : NV c s d f sl ti CH) (hK1 : 1 ≤ K) (hK3 : K ≤ 3) (hb : b < 9) (he : e < 9) (hw : ∀ a, a < c → sW1 s d f u ti CH V a < 2 ^ 62) {k185 : e_I → e_L → Option (e_I × e_L)} {Q : e_I × e_L → Prop} : ∀ m a n B I L, a + m = c → m < n → SK g c s d f sl ti (K - 1) u CH O V I L → c_best B I L → isB (fun v k => S v k ∨ seen K c b e (sW1 s d f u ti CH V) a v k) B → (∀ B' I' L', fr sF I I' → frL sFL L L' → c_best B' I' L' → isB (fun v k => S v k ∨ seen K c b e (sW1 s d f u ti CH V) c v k) B' → wp (k185 I' L') Q) → wp (f_X3_seek_108 g (nI K) (nI c) (nI e) (nI b) k185 n (nI a) I L) Q := by
  have c9 := hn.1.2
  intro m
  induction m with
  | zero =>
    intro a n B I L h0 hm sk hB hS kk
    obtain ⟨n', rfl⟩ : ∃ k, n = k + 1 := ⟨n - 1, by omega⟩
    have h0 : a = c := h0
    subst h0
    rw [f_X3_seek_108]
    exact wp_t (nI_le (Nat.le_refl a) (by omega)) (kk B I L fr_rfl frL_rfl hB hS)
  | succ m ih =>
    intro a n B I L h0 hm sk hB hS kk
    obtain ⟨n', rfl⟩ : ∃ k, n = k + 1 := ⟨n - 1, by omega⟩
    have ha : a < c := by omega
    rw [S_108 hK1 hK3 ha c9 hb he]
    by_cases q : pa K c a b e
    · rw [if_pos q]
      unfold f_X3_seek_153
      have su := C_sendUp (I := I) (b := a) (fc := 0) hg sk.1 hn ha (by decide)
      refine wp_c1 su (fun J hJ => ?_)
      obtain ⟨j1, j2⟩ := hJ
      have jF : fr sF I J := fr_mono (fun x i z => Or.inl z) j1
      have sJ := SK_fr hg jF (frL_rfl (I := L)) sk
      have e1 : nI K - 1 = nI (K - 1) := nI_sub (b := 1) hK1
      have hm : f_X1_hitMean (nI (K - 1)) 0 J L = some (lN (sW1 s d f u ti CH V a)) := C_hitMean (st := 0) (any := false) hn.2.1 sJ.2.1 sJ.2.2.1 (fun x hx => ⟨j2 x hx, sh1_lt hn ha hx⟩) sJ.2.2.2.1 sJ.2.2.2.2 (by omega) (by decide)
      rw [e1]
      have hBJ : c_best B J L := by
        cases B with
        | none => exact hB
        | some p => exact ⟨hB.1, (j1 19 2 (fun y => by cases y)).trans hB.2.1, hB.2.2⟩
      refine wp_e1 hm (wp_c2 (C_compare hBJ (hw a ha) (by omega) hb he) (fun I3 L4 h3 => ?_))
      obtain ⟨x1, x2, x3⟩ := h3
      have x2 : fr (fun x i => x = 19 ∧ i = 2) J I3 := x2
      have x3 : frL (fun x i => x = 19 ∧ i = 3) L L4 := x3
      have f3 : fr sF I I3 := fr_tr jF (fr_mono (fun x i z => Or.inr z.1) x2)
      have l3 : frL sFL L L4 := frL_mono (fun x i z => z.1) x3
      unfold f_X3_seek_179
      refine wp_let ?_
      rw [nI_1 a]
      refine ih (a + 1) n' (some (bB B (sW1 s d f u ti CH V a) ((a * 9 + b) * 9 + e))) I3 L4 (by omega) (by omega) (SK_fr hg f3 l3 sk) x1 (isB_congr (fun v k => ?_) (isB_add hS)) (fun B' I' L' y1 y2 y3 y4 => kk B' I' L' (fr_tr f3 y1) (frL_tr l3 y2) y3 y4)
      constructor
      · intro z
        rcases z with (z | ⟨a', z1, z2⟩) | z
        · exact Or.inl z
        · exact Or.inr ⟨a', by omega, z2⟩
        · exact Or.inr ⟨a, by omega, q, z.1, z.2⟩
      · intro z
        rcases z with z | ⟨a', z1, z2, z3, z4⟩
        · exact Or.inl (Or.inl z)
        · by_cases y : a' = a
          · subst y
            exact Or.inr ⟨z3, z4⟩
          · exact Or.inl (Or.inr ⟨a', by omega, z2, z3, z4⟩)
    · rw [if_neg q]
      unfold f_X3_seek_179
      refine wp_let ?_
      rw [nI_1 a]
      refine ih (a + 1) n' B I L (by omega) (by omega) sk hB (isB_congr (fun v k => ?_) hS) kk
      constructor
      · intro z
        rcases z with z | ⟨a', z1, z2⟩
        · exact Or.inl z
        · exact Or.inr ⟨a', by omega, z2⟩
      · intro z
        rcases z with z | ⟨a', z1, z2, z3, z4⟩
        · exact Or.inl z
        · by_cases y : a' = a
          · subst y
            exact absurd z2 q
          · exact Or.inr ⟨a', by omega, z2, z3, z4⟩
