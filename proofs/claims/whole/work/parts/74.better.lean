-- BETTER: the best exchange, as a spec
def bS (w : Nat → Nat → Nat) (i j : Nat) (s : Nat × Option (Nat × Nat)) : Nat × Option (Nat × Nat) := if w i j ≤ s.1 then s else (w i j, some (i, j))
def bI (w : Nat → Nat → Nat) (i : Nat) : Nat → Nat → Nat × Option (Nat × Nat) → Nat × Option (Nat × Nat)
  | 0, _, s => s
  | m + 1, j, s => bI w i m (j + 1) (bS w i j s)
def bO (w : Nat → Nat → Nat) (c : Nat) : Nat → Nat → Nat × Option (Nat × Nat) → Nat × Option (Nat × Nat)
  | 0, _, s => s
  | m + 1, i, s => bO w c m (i + 1) (bI w i (c - (i + 1)) (i + 1) s)
theorem bI_P {w : Nat → Nat → Nat} {c i : Nat} (P : Nat × Option (Nat × Nat) → Prop) (hP : ∀ j s, i < j → j < c → P s → P (bS w i j s)) : ∀ m j s, i < j → j + m ≤ c → P s → P (bI w i m j s)
  | 0, _, _, _, _, h => h
  | m + 1, j, s, h1, h2, h => bI_P P hP m (j + 1) (bS w i j s) (by omega) (by omega) (hP j s h1 (by omega) h)
theorem bO_P {w : Nat → Nat → Nat} {c : Nat} (P : Nat × Option (Nat × Nat) → Prop) (hP : ∀ i j s, i < j → j < c → P s → P (bS w i j s)) : ∀ m i s, i + m ≤ c → P s → P (bO w c m i s)
  | 0, _, _, _, h => h
  | m + 1, i, s, h2, h => bO_P P hP m (i + 1) _ (by omega) (bI_P P (fun j s => hP i j s) (c - (i + 1)) (i + 1) s (by omega) (by omega) h)
theorem bI_same {w : Nat → Nat → Nat} {c i : Nat} {s : Nat × Option (Nat × Nat)} (h : ∀ j, i < j → j < c → w i j ≤ s.1) : ∀ m j, i < j → j + m ≤ c → bI w i m j s = s
  | 0, _, _, _ => rfl
  | m + 1, j, h1, h2 => by
    show bI w i m (j + 1) (bS w i j s) = s
    have e : bS w i j s = s := if_pos (h j h1 (by omega))
    rw [e]
    exact bI_same h m (j + 1) (by omega) (by omega)
theorem bO_same {w : Nat → Nat → Nat} {c K : Nat} {s : Nat × Option (Nat × Nat)} (h : ∀ i j, K ≤ i → i < j → j < c → w i j ≤ s.1) : ∀ m i, K ≤ i → i + m ≤ c → bO w c m i s = s
  | 0, _, _, _ => rfl
  | m + 1, i, h1, h2 => by
    show bO w c m (i + 1) (bI w i (c - (i + 1)) (i + 1) s) = s
    rw [bI_same (c := c) (fun j => h i j h1) (c - (i + 1)) (i + 1) (by omega) (by omega)]
    exact bO_same h m (i + 1) (by omega) (by omega)
theorem bO_add {w : Nat → Nat → Nat} {c m2 : Nat} : ∀ m1 i s, bO w c (m1 + m2) i s = bO w c m2 (i + m1) (bO w c m1 i s)
  | 0, i, s => by
    rw [Nat.zero_add]
    rfl
  | m1 + 1, i, s => by
    rw [show m1 + 1 + m2 = m1 + m2 + 1 by omega, show i + (m1 + 1) = i + 1 + m1 by omega]
    exact bO_add m1 (i + 1) _
def bW (c w0 : Nat) (s : Nat × Option (Nat × Nat)) : Prop := w0 ≤ s.1 ∧ s.1 < 2 ^ 62 ∧ ∀ q, s.2 = some q → q.1 < q.2 ∧ q.2 < c
theorem bW_S {w : Nat → Nat → Nat} {c w0 i j : Nat} {s : Nat × Option (Nat × Nat)} (hw : w i j < 2 ^ 62) (hij : i < j) (hj : j < c) (h : bW c w0 s) : bW c w0 (bS w i j s) := by
  unfold bS
  by_cases q : w i j ≤ s.1
  · rw [if_pos q]
    exact h
  · rw [if_neg q]
    refine ⟨by have := h.1; show w0 ≤ w i j; omega, hw, fun q e => ?_⟩
    have e : some (i, j) = some q := e
    injection e with e
    subst e
    exact ⟨hij, hj⟩
theorem LV_congr {s d f c sl ti kd k fi fc : Nat} {CH : Nat → Nat → Nat} {O O' : Nat → Nat} (h : ∀ i, i < k → O ((fi + i) % c) = O' ((fi + i) % c)) : ∀ j, j ≤ k → LV s d f c sl ti kd k fi fc CH O j = LV s d f c sl ti kd k fi fc CH O' j
  | 0, _ => rfl
  | j + 1, hj => by
    funext st
    show (if st < 24 then sK s d f (sSc c kd ^ j) sl kd (LV s d f c sl ti kd k fi fc CH O j) (sSh c ti kd CH (O ((fi + (k - (j + 1))) % c)) (fc + (k - (j + 1)))) st else 0) = (if st < 24 then sK s d f (sSc c kd ^ j) sl kd (LV s d f c sl ti kd k fi fc CH O' j) (sSh c ti kd CH (O' ((fi + (k - (j + 1))) % c)) (fc + (k - (j + 1)))) st else 0)
    rw [LV_congr h j (by omega), h (k - (j + 1)) (by omega)]
def e1 (p : Option (Nat × Nat)) : Int32 := match p with
  | none => -1
  | some q => nI q.1
def e2 (p : Option (Nat × Nat)) : Int32 := match p with
  | none => -1
  | some q => nI q.2
def oB (O : Nat → Nat) (p : Option (Nat × Nat)) : Nat → Nat := match p with
  | none => O
  | some q => swO O q.1 q.2
def rB (p : Option (Nat × Nat)) : Int32 := match p with
  | none => 0
  | some _ => 1
-- the class
def KC (g c s d f sl ti : Nat) (CH : Nat → Nat → Nat) (O : Nat → Nat) (I : e_I) (L : e_L) : Prop := CV I g c s d f sl ti CH O ∧ c_T I s d f ∧ I 11 5 = 0 ∧ c_Z L
theorem KC_17 {g c s d f sl ti : Nat} {CH : Nat → Nat → Nat} {O : Nat → Nat} {I J : e_I} {L M : e_L} (hg : 23 ≤ g) (h : fr c_S17 I J) (hz : c_Z M) (k : KC g c s d f sl ti CH O I L) : KC g c s d f sl ti CH O J M :=
  ⟨CV_fr (fun i => h _ i (fun z => by unfold c_S17 at z; omega)) (fun i => h _ i (fun z => by unfold c_S17 at z; omega)) (fun i => h _ i (fun z => by unfold c_S17 at z; omega)) (fun i => h _ i (fun z => by unfold c_S17 at z; omega)) k.1, c_T_fr (fun i => h 13 i (fun z => by cases z)) (fun i => h 14 i (fun z => by cases z)) k.2.1, (h 11 5 (fun z => by cases z)).trans k.2.2.1, hz⟩
theorem C_bI {g c s d f sl ti K i : Nat} {CH : Nat → Nat → Nat} {O : Nat → Nat} {w : Nat → Nat → Nat} (hg : 23 ≤ g) (hn : NV c s d f sl ti CH) (hw : ∀ x y, x < c → y < c → w x y = LV s d f c sl ti 0 K 0 0 CH (swO O x y) K 0 ∧ w x y < 2 ^ 62) (h1 : 1 ≤ K) (hk : K ≤ 5) (hi : i < c) {k87 : Int64 → Int32 → Int32 → e_I → e_L → Option (Int32 × e_I × e_L)} {Q : Int32 × e_I × e_L → Prop} : ∀ m j s0 n I L, j + m = c → m < n → KC g c s d f sl ti CH O I L → s0.1 < 2 ^ 62 → (∀ I' L', KC g c s d f sl ti CH O I' L' → fr c_S17 I I' → wp (k87 (lN (bI w i m j s0).1) (e1 (bI w i m j s0).2) (e2 (bI w i m j s0).2) I' L') Q) → wp (f_X3_improve_39 g (nI K) (nI i) k87 n (lN s0.1) (e1 s0.2) (e2 s0.2) (nI j) I L) Q := by
  have c9 := hn.1.2
  intro m
  induction m with
  | zero =>
    intro j s0 n I L h0 hm kc hs kk
    obtain ⟨n', rfl⟩ : ∃ k, n = k + 1 := ⟨n - 1, by omega⟩
    have h0 : j = c := h0
    subst h0
    unfold f_X3_improve_39
    rw [kc.1.1]
    exact wp_t (nI_le (Nat.le_refl j) (by omega)) (kk I L kc fr_rfl)
  | succ m ih =>
    intro j s0 n I L h0 hm kc hs kk
    obtain ⟨n', rfl⟩ : ∃ k, n = k + 1 := ⟨n - 1, by omega⟩
    have hj : j < c := by omega
    obtain ⟨w1, w2⟩ := hw i j hi hj
    unfold f_X3_improve_39
    rw [kc.1.1]
    refine wp_f (c_ge hj (by omega)) (wp_c3 (C_wEx hg kc.1 hn kc.2.1 kc.2.2.1 kc.2.2.2 h1 hk hi hj) (fun r J M hJ => ?_))
    obtain ⟨j1, j2, j3, _⟩ := hJ
    have j1 : r = lN (w i j) := by
      rw [w1]
      exact j1
    have j2 : fr c_S17 I J := j2
    have kJ := KC_17 hg j2 j3 kc
    have le : lg_cmp (lN (w i j)) (lN s0.1) ≤ 0 ↔ w i j ≤ s0.1 := lN_cmp (by omega) (by omega)
    rw [j1]
    refine wp_c (fun z => ?_) (fun z => ?_)
    · have e : bS w i j s0 = s0 := if_pos (le.mp z)
      unfold f_X3_improve_81
      refine wp_let ?_
      rw [nI_1 j]
      refine ih (j + 1) s0 n' J M (by omega) (by omega) kJ hs (fun I' L' k' f' => ?_)
      have := kk I' L' k' (fr_tr j2 f')
      rw [show bI w i (m + 1) j s0 = bI w i m (j + 1) (bS w i j s0) from rfl, e] at this
      exact this
    · have e : bS w i j s0 = (w i j, some (i, j)) := if_neg (fun n => z (le.mpr n))
      unfold f_X3_improve_81
      refine wp_let ?_
      rw [nI_1 j]
      refine ih (j + 1) (w i j, some (i, j)) n' J M (by omega) (by omega) kJ w2 (fun I' L' k' f' => ?_)
      have := kk I' L' k' (fr_tr j2 f')
      rw [show bI w i (m + 1) j s0 = bI w i m (j + 1) (bS w i j s0) from rfl, e] at this
      exact this
theorem C_bO {g c s d f sl ti K : Nat} {CH : Nat → Nat → Nat} {O : Nat → Nat} {w : Nat → Nat → Nat} (hg : 23 ≤ g) (hn : NV c s d f sl ti CH) (hw : ∀ x y, x < c → y < c → w x y = LV s d f c sl ti 0 K 0 0 CH (swO O x y) K 0 ∧ w x y < 2 ^ 62) (h1 : 1 ≤ K) (hk : K ≤ 5) {k93 : Int32 → Int32 → e_I → e_L → Option (Int32 × e_I × e_L)} {Q : Int32 × e_I × e_L → Prop} : ∀ m i s0 n I L, i + m = min c K → m < n → KC g c s d f sl ti CH O I L → bW c 0 s0 → (∀ I' L', KC g c s d f sl ti CH O I' L' → fr c_S17 I I' → wp (k93 (e1 (bO w c m i s0).2) (e2 (bO w c m i s0).2) I' L') Q) → wp (f_X3_improve_18 g (nI K) k93 n (lN s0.1) (e1 s0.2) (e2 s0.2) (nI i) I L) Q := by
  have c9 := hn.1.2
  intro m
  induction m with
  | zero =>
    intro i s0 n I L h0 hm kc hs kk
    obtain ⟨n', rfl⟩ : ∃ k, n = k + 1 := ⟨n - 1, by omega⟩
    have h0 : i = min c K := h0
    have kz := kk I L kc fr_rfl
    unfold f_X3_improve_18
    rw [kc.1.1]
    refine wp_c (fun _ => kz) (fun z => wp_c (fun _ => kz) (fun z2 => ?_))
    have a : i < c := by
      rcases Nat.lt_or_ge i c with a | a
      · exact a
      · exact absurd (nI_le a (by omega)) z
    have b : i < K := by
      rcases Nat.lt_or_ge i K with a | a
      · exact a
      · exact absurd (nI_le a (by omega)) z2
    omega
  | succ m ih =>
    intro i s0 n I L h0 hm kc hs kk
    obtain ⟨n', rfl⟩ : ∃ k, n = k + 1 := ⟨n - 1, by omega⟩
    have hi : i < c := by omega
    have hK : i < K := by omega
    unfold f_X3_improve_18
    rw [kc.1.1]
    refine wp_f (c_ge hi (by omega)) (wp_f (c_ge hK (by omega)) (wp_let ?_))
    rw [nI_1 i]
    refine C_bI hg hn hw h1 hk hi (c - (i + 1)) (i + 1) s0 e_FU I L (by omega) (wp_FU (by omega)) kc hs.2.1 (fun I' L' k' f' => wp_let ?_)
    refine ih (i + 1) (bI w i (c - (i + 1)) (i + 1) s0) n' I' L' (by omega) (by omega) k' ?_ (fun I2 L2 k2 f2 => kk I2 L2 k2 (fr_tr f' f2))
    exact bI_P (c := c) (bW c 0) (fun j s hij hj hs => bW_S (hw i j hi hj).2 hij hj hs) _ _ _ (by omega) (by omega) hs
theorem e1_n {p : Option (Nat × Nat)} {c : Nat} (hc : c ≤ 9) (h : ∀ q, p = some q → q.1 < q.2 ∧ q.2 < c) : e1 p = -1 ↔ p = none := by
  cases p with
  | none => exact ⟨fun _ => rfl, fun _ => rfl⟩
  | some q =>
    have := h q rfl
    exact ⟨fun z => absurd z (nI_m1 (by omega)), fun z => by cases z⟩
theorem C_imp {I : e_I} {L : e_L} {g c s d f sl ti K : Nat} {CH : Nat → Nat → Nat} {O : Nat → Nat} {w : Nat → Nat → Nat} {w0 : Nat} (hg : 23 ≤ g) (hn : NV c s d f sl ti CH) (hw : ∀ x y, x < c → y < c → w x y = LV s d f c sl ti 0 K 0 0 CH (swO O x y) K 0 ∧ w x y < 2 ^ 62) (hw0 : w0 = LV s d f c sl ti 0 K 0 0 CH O K 0 ∧ w0 < 2 ^ 62) (h1 : 1 ≤ K) (hk : K ≤ 5) (kc : KC g c s d f sl ti CH O I L) : wp (f_X3_improve g (nI K) I L) (fun q => q.1 = rB (bO w c (min c K) 0 (w0, none)).2 ∧ KC g c s d f sl ti CH (oB O (bO w c (min c K) 0 (w0, none)).2) q.2.1 q.2.2 ∧ fr (fun a _ => a = g + 3 ∨ a = 17) I q.2.1) := by
  have c9 := hn.1.2
  have P : bW c 0 (bO w c (min c K) 0 (w0, none)) := bO_P (c := c) (bW c 0) (fun i j s hij hj hs => bW_S (hw i j (by omega) hj).2 hij hj hs) _ _ _ (by omega) ⟨Nat.zero_le _, hw0.2, fun q e => by cases e⟩
  unfold f_X3_improve f_X3_worthNow
  refine wp_b3 (wp_c3 (C_worth hg kc.1 hn kc.2.1 kc.2.2.1 kc.2.2.2 h1 hk) (fun r J M hJ => wp_some ?_))
  obtain ⟨j1, j2, j3, j4, _⟩ := hJ
  have j1 : r = lN w0 := by
    rw [hw0.1]
    exact j1
  have j2 : fr c_S17 I J := j2
  have kJ := KC_17 hg j2 j4 kc
  show wp (f_X3_improve_18 g (nI K) _ e_FU r (e1 none) (e2 none) (nI 0) J M) _
  rw [j1]
  refine C_bO hg hn hw h1 hk (min c K) 0 (w0, none) e_FU J M (by omega) (wp_FU (by omega)) kJ ⟨Nat.zero_le _, hw0.2, fun q e => by cases e⟩ (fun I' L' k' f' => ?_)
  have fI : fr c_S17 I I' := fr_tr j2 f'
  generalize bO w c (min c K) 0 (w0, none) = S at P ⊢
  obtain ⟨v, p⟩ := S
  cases p with
  | none =>
    refine wp_f (fun n => n rfl) (wp_some ⟨rfl, k', fr_mono (fun a i z => Or.inr z) fI⟩)
  | some q =>
    obtain ⟨q1, q2⟩ := P.2.2 q rfl
    refine wp_t (nI_m1 (by omega)) (wp_c1 (C_exchange k'.1 c9 (show q.1 < c by omega) q2) (fun E hE => wp_some ⟨rfl, ?_, ?_⟩))
    · obtain ⟨d0, d3⟩ := hE
      exact ⟨CV_ex k'.1 (by omega) q2 d0 d3, c_T_fr (fun i => d0 13 i (by omega)) (fun i => d0 14 i (by omega)) k'.2.1, (d0 11 5 (by omega)).trans k'.2.2.1, k'.2.2.2⟩
    · intro a i z
      exact (hE.1 a i (fun y => z (Or.inl y))).trans (fI a i (fun y => z (Or.inr y)))
