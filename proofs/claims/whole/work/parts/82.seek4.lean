-- BEST: the class's outer loop
def V1k (s d f ti K : Nat) (CH : Nat → Nat → Nat) (e : Nat) : Nat → Nat := if K ≤ 2 then (fun _ => 0) else rowV s d f (20 ^ (K - 3)) ti CH (fun _ => 0) e 2
def oF (a _i : Nat) : Prop := a = 19 ∨ a = 15
def wK (s d f ti K : Nat) (CH : Nat → Nat → Nat) (e b a : Nat) : Nat := sW1 s d f (20 ^ (K - 1)) ti CH (Vk s d f ti K CH (V1k s d f ti K CH e) b) a
def seenO (s d f ti K c : Nat) (CH : Nat → Nat → Nat) (e : Nat) (v k : Nat) : Prop := ∃ e', e' < e ∧ seenM K c e' (wK s d f ti K CH e') (if K ≤ 1 then 1 else c) v k
theorem C_reck2 {g c s d f sl ti e K : Nat} {CH : Nat → Nat → Nat} {O : Nat → Nat} {I : e_I} {L : e_L} (hg : 23 ≤ g) (hn : NV c s d f sl ti CH) (he : e < c) (hK1 : 1 ≤ K) (hK : K ≤ 3) (sx : SX g c s d f sl ti CH O I L) : wp (f_X3_reckon g (nI e) 2 (nI K) I L) (fun q => fr c_S17 I q.1 ∧ frL (fun a _ => a = 15) L q.2 ∧ SX g c s d f sl ti CH O q.1 q.2 ∧ (2 ≤ K → c_R q.2 (K - 2) (V1k s d f ti K CH e))) := by
  have z0 : c_R L 0 (fun _ => 0) := fun x hx => by
    have z := sx.2.2.2.2.1 x hx
    show L 15 (0 * 25 + x) = lN 0
    rw [show 0 * 25 + x = x by omega]
    exact z
  by_cases q : K ≤ 2
  · unfold f_X3_reckon f_X3_reckon_24
    have le : (2 : Int32) ≥ nI K := nI_le (b := 2) q (by decide)
    refine wp_t le (wp_some ⟨fr_rfl, frL_rfl, sx, fun h2 => ?_⟩)
    have ev : V1k s d f ti K CH e = (fun _ => 0) := if_pos q
    rw [ev, show K - 2 = 0 by omega]
    exact z0
  · have k3 : K = 3 := by omega
    subst k3
    refine wp_mono (C_reck (p := 2) (K := 3) (V := fun _ => 0) hg hn he (by decide) hK sx z0) (fun p hp => ⟨hp.1, frL_mono (fun a i z => z.1) hp.2.1, hp.2.2.1, fun _ => ?_⟩)
    exact hp.2.2.2
theorem C_s28 {g c s d f sl ti K : Nat} {CH : Nat → Nat → Nat} {O : Nat → Nat} (hg : 23 ≤ g) (hn : NV c s d f sl ti CH) (hK1 : 1 ≤ K) (hK3 : K ≤ 3) (hw : ∀ e b a, e < c → b < c → a < c → wK s d f ti K CH e b a < 2 ^ 62) {k197 : e_I → e_L → Option (e_I × e_L)} {Q : e_I × e_L → Prop} : ∀ m e n B I L, e + m = (if K ≤ 2 then 1 else c) → m < n → SX g c s d f sl ti CH O I L → c_best B I L → isB (seenO s d f ti K c CH e) B → (∀ B' I' L', fr sF I I' → frL oF L L' → SX g c s d f sl ti CH O I' L' → c_best B' I' L' → isB (seenO s d f ti K c CH (if K ≤ 2 then 1 else c)) B' → wp (k197 I' L') Q) → wp (f_X3_seek_28 g (nI K) (nI c) k197 n (nI e) I L) Q := by
  have c0 := hn.1.1
  have c9 := hn.1.2
  intro m
  induction m with
  | zero =>
    intro e n B I L h0 hm sx hB hS kk
    obtain ⟨n', rfl⟩ : ∃ k, n = k + 1 := ⟨n - 1, by omega⟩
    have h0 : e = (if K ≤ 2 then 1 else c) := h0
    have kz := kk B I L fr_rfl frL_rfl sx hB (by rw [← h0]; exact hS)
    rw [f_X3_seek_28]
    unfold f_X3_seek_41
    by_cases q : K ≤ 2
    · rw [if_pos q] at h0
      have le : nI K ≤ 2 := nI_le (b := 2) q (by decide)
      subst h0
      exact wp_t le (wp_t (by decide) kz)
    · rw [if_neg q] at h0
      have gt : ¬ nI K ≤ 2 := nI_ge (a := 2) (by omega) (by omega)
      subst h0
      exact wp_f gt (wp_t (nI_le (Nat.le_refl e) (by omega)) kz)
  | succ m ih =>
    intro e n B I L h0 hm sx hB hS kk
    obtain ⟨n', rfl⟩ : ∃ k, n = k + 1 := ⟨n - 1, by omega⟩
    have he2 : e < (if K ≤ 2 then 1 else c) := by omega
    have he : e < c := by
      by_cases q : K ≤ 2
      · rw [if_pos q] at he2
        omega
      · rw [if_neg q] at he2
        exact he2
    have body : wp (e_b2 (f_X3_reckon g (nI e) 2 (nI K) I L) (fun (I_2 : e_I) (L_3 : e_L) => f_X3_seek_57 g (nI K) (nI c) (nI e) (fun (I_4 : e_I) (L_5 : e_L) => e_let (nI e + 1) (fun (x_6 : Int32) => f_X3_seek_28 g (nI K) (nI c) k197 n' x_6 I_4 L_5)) e_FU 0 I_2 L_3)) Q := by
      refine wp_c2 (C_reck2 hg hn he hK1 hK3 sx) (fun J M hJ => ?_)
      obtain ⟨j1, j2, j3, j4⟩ := hJ
      have j1 : fr c_S17 I J := j1
      have j2 : frL (fun a _ => a = 15) L M := j2
      have j3 : SX g c s d f sl ti CH O J M := j3
      have hBJ : c_best B J M := c_best_fr (j1 19 2 (fun z => by cases z)) (j2 19 3 (fun z => by cases z)) hB
      refine C_s57 (V1 := V1k s d f ti K CH e) (S := seenO s d f ti K c CH e) hg hn hK1 hK3 (by omega) (fun b a hb ha => hw e b a he hb ha) (if K ≤ 1 then 1 else c) 0 e_FU B J M (by omega) (wp_FU (by split <;> omega)) j3 j4 hBJ (isB_congr (fun v k => ⟨fun z => Or.inl z, fun z => ?_⟩) hS) (fun B' I' L' y1 y2 y3 y4 y5 => wp_let ?_)
      · rcases z with z | ⟨b', z, _⟩
        · exact z
        · omega
      · rw [nI_1 e]
        have f3 : fr sF I I' := fr_tr (fr_mono (fun x i z => Or.inl z) j1) y1
        have l3 : frL oF L L' := frL_tr (frL_mono (fun x i z => Or.inr z) j2) (frL_mono (fun x i z => by
          rcases z with z | z
          · exact Or.inl z
          · exact Or.inr z.2.1) y2)
        refine ih (e + 1) n' B' I' L' (by omega) (by omega) y3 y4 (isB_congr (fun v k => ?_) y5) (fun B2 I2 L2 x1 x2 x3 x4 x5 => kk B2 I2 L2 (fr_tr f3 x1) (frL_tr l3 x2) x3 x4 x5)
        constructor
        · intro z
          rcases z with ⟨e', z1, z2⟩ | z
          · exact ⟨e', by omega, z2⟩
          · exact ⟨e, by omega, z⟩
        · intro z
          obtain ⟨e', z1, z2⟩ := z
          by_cases y : e' = e
          · subst y
            exact Or.inr z2
          · exact Or.inl ⟨e', by omega, z2⟩
    rw [f_X3_seek_28]
    unfold f_X3_seek_41
    by_cases q : K ≤ 2
    · rw [if_pos q] at he2
      have le : nI K ≤ 2 := nI_le (b := 2) q (by decide)
      have e0 : e = 0 := by omega
      subst e0
      exact wp_t le (wp_f (by decide) body)
    · rw [if_neg q] at he2
      have gt : ¬ nI K ≤ 2 := nI_ge (a := 2) (by omega) (by omega)
      exact wp_f gt (wp_f (c_ge he2 (by omega)) body)
