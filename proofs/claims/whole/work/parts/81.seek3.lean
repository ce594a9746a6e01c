-- BEST: the class's middle loop, whole
def Vk (s d f ti K : Nat) (CH : Nat → Nat → Nat) (V1 : Nat → Nat) (b : Nat) : Nat → Nat := if K ≤ 1 then (fun _ => 0) else rowV s d f (20 ^ (K - 2)) ti CH V1 b 1
def mid0 (K a i : Nat) : Prop := 2 ≤ K ∧ c_SR (K - 1) a i
def mid (K a i : Nat) : Prop := a = 19 ∨ mid0 K a i
def seenM (K c e : Nat) (w : Nat → Nat → Nat) (b : Nat) (v k : Nat) : Prop := ∃ b', b' < b ∧ pb K c b' e ∧ seen K c b' e (w b') c v k
theorem c_best_fr {B : Option (Nat × Nat)} {I J : e_I} {L M : e_L} (h : J 19 2 = I 19 2) (hl : M 19 3 = L 19 3) (hb : c_best B I L) : c_best B J M := by
  cases B with
  | none => exact hl.trans hb
  | some p => exact ⟨hl.trans hb.1, h.trans hb.2.1, hb.2.2⟩
theorem C_reck1 {g c s d f sl ti b K : Nat} {CH : Nat → Nat → Nat} {O V1 : Nat → Nat} {I : e_I} {L : e_L} (hg : 23 ≤ g) (hn : NV c s d f sl ti CH) (hb : b < c) (hK1 : 1 ≤ K) (hK : K ≤ 3) (sx : SX g c s d f sl ti CH O I L) (hV : 2 ≤ K → c_R L (K - 2) V1) : wp (f_X3_reckon g (nI b) 1 (nI K) I L) (fun q => fr c_S17 I q.1 ∧ frL (mid0 K) L q.2 ∧ SX g c s d f sl ti CH O q.1 q.2 ∧ c_R q.2 (K - 1) (Vk s d f ti K CH V1 b)) := by
  by_cases q : K ≤ 1
  · have k1 : K = 1 := by omega
    subst k1
    unfold f_X3_reckon f_X3_reckon_24
    refine wp_t (by decide) (wp_some ⟨fr_rfl, frL_rfl, sx, fun x hx => ?_⟩)
    have e : Vk s d f ti 1 CH V1 b x = 0 := rfl
    rw [e]
    have z := sx.2.2.2.2.1 x hx
    show L 15 ((1 - 1) * 25 + x) = lN 0
    rw [show (1 - 1) * 25 + x = x by omega]
    exact z
  · have e1 : K - 1 - 1 = K - 2 := by omega
    refine wp_mono (C_reck (p := 1) (V := V1) hg hn hb (by omega) hK sx (by rw [e1]; exact hV (by omega))) (fun p hp => ⟨hp.1, frL_mono (fun a i z => ⟨by omega, z⟩) hp.2.1, hp.2.2.1, ?_⟩)
    have k := hp.2.2.2
    rw [e1] at k
    have ev : Vk s d f ti K CH V1 b = rowV s d f (20 ^ (K - 2)) ti CH V1 b 1 := if_neg q
    rw [ev]
    exact k
theorem C_s57 {g c s d f sl ti K e : Nat} {CH : Nat → Nat → Nat} {O V1 : Nat → Nat} {S : Nat → Nat → Prop} (hg : 23 ≤ g) (hn : NV c s d f sl ti CH) (hK1 : 1 ≤ K) (hK3 : K ≤ 3) (he : e < 9) (hw : ∀ b a, b < c → a < c → sW1 s d f (20 ^ (K - 1)) ti CH (Vk s d f ti K CH V1 b) a < 2 ^ 62) {k191 : e_I → e_L → Option (e_I × e_L)} {Q : e_I × e_L → Prop} : ∀ m b n B I L, b + m = (if K ≤ 1 then 1 else c) → m < n → SX g c s d f sl ti CH O I L → (2 ≤ K → c_R L (K - 2) V1) → c_best B I L → isB (fun v k => S v k ∨ seenM K c e (fun b => sW1 s d f (20 ^ (K - 1)) ti CH (Vk s d f ti K CH V1 b)) b v k) B → (∀ B' I' L', fr sF I I' → frL (mid K) L L' → SX g c s d f sl ti CH O I' L' → c_best B' I' L' → isB (fun v k => S v k ∨ seenM K c e (fun b => sW1 s d f (20 ^ (K - 1)) ti CH (Vk s d f ti K CH V1 b)) (if K ≤ 1 then 1 else c) v k) B' → wp (k191 I' L') Q) → wp (f_X3_seek_57 g (nI K) (nI c) (nI e) k191 n (nI b) I L) Q := by
  have c0 := hn.1.1
  have c9 := hn.1.2
  intro m
  induction m with
  | zero =>
    intro b n B I L h0 hm sx hV hB hS kk
    obtain ⟨n', rfl⟩ : ∃ k, n = k + 1 := ⟨n - 1, by omega⟩
    have h0 : b = (if K ≤ 1 then 1 else c) := h0
    rw [S_57e h0 hK1 hK3 c9]
    rw [h0] at hS
    exact kk B I L fr_rfl frL_rfl sx hB hS
  | succ m ih =>
    intro b n B I L h0 hm sx hV hB hS kk
    obtain ⟨n', rfl⟩ : ∃ k, n = k + 1 := ⟨n - 1, by omega⟩
    have hb2 : b < (if K ≤ 1 then 1 else c) := by omega
    have hb : b < c := by
      by_cases q : K ≤ 1
      · rw [if_pos q] at hb2
        omega
      · rw [if_neg q] at hb2
        exact hb2
    rw [S_57 hK1 hK3 hb2 c0 c9 he]
    by_cases q : pb K c b e
    · rw [if_pos q]
      unfold f_X3_seek_95
      refine wp_c2 (C_reck1 hg hn hb hK1 hK3 sx hV) (fun J M hJ => ?_)
      obtain ⟨j1, j2, j3, j4⟩ := hJ
      have j1 : fr c_S17 I J := j1
      have j2 : frL (mid0 K) L M := j2
      have j3 : SX g c s d f sl ti CH O J M := j3
      have hBJ : c_best B J M := c_best_fr (j1 19 2 (fun z => by cases z)) (j2 19 3 (fun z => by cases z.2.1)) hB
      refine C_s108 (S := fun v k => S v k ∨ seenM K c e (fun b => sW1 s d f (20 ^ (K - 1)) ti CH (Vk s d f ti K CH V1 b)) b v k) hg hn hK1 hK3 (by omega) he (fun a ha => hw b a hb ha) c 0 e_FU B J M (by omega) (wp_FU (by omega)) ⟨j3.1, j3.2.1, j3.2.2.1, j3.2.2.2.1 (K - 1) (by omega), j4⟩ hBJ (isB_congr (fun v k => ⟨fun z => Or.inl z, fun z => ?_⟩) hS) (fun B' I' L' y1 y2 y3 y4 => ?_)
      · rcases z with z | ⟨a', z, _⟩
        · exact z
        · omega
      · unfold f_X3_seek_185
        refine wp_let ?_
        rw [nI_1 b]
        have f3 : fr sF I I' := fr_tr (fr_mono (fun x i z => Or.inl z) j1) y1
        have l3 : frL (mid K) L L' := frL_tr (frL_mono (fun x i z => Or.inr z) j2) (frL_mono (fun x i z => Or.inl z) y2)
        refine ih (b + 1) n' B' I' L' (by omega) (by omega) (SX_fr hg y1 y2 j3) (fun h2 x hx => ?_) y3 (isB_congr (fun v k => ?_) y4) (fun B2 I2 L2 x1 x2 x3 x4 x5 => kk B2 I2 L2 (fr_tr f3 x1) (frL_tr l3 x2) x3 x4 x5)
        · rw [l3 15 _ (fun z => by
            rcases z with z | z
            · cases z
            · have := z.2.2.1
              omega)]
          exact hV h2 x hx
        · constructor
          · intro z
            rcases z with (z | ⟨b', z1, z2⟩) | z
            · exact Or.inl z
            · exact Or.inr ⟨b', by omega, z2⟩
            · exact Or.inr ⟨b, by omega, q, z⟩
          · intro z
            rcases z with z | ⟨b', z1, z2, z3⟩
            · exact Or.inl (Or.inl z)
            · by_cases y : b' = b
              · subst y
                exact Or.inr z3
              · exact Or.inl (Or.inr ⟨b', by omega, z2, z3⟩)
    · rw [if_neg q]
      unfold f_X3_seek_185
      refine wp_let ?_
      rw [nI_1 b]
      refine ih (b + 1) n' B I L (by omega) (by omega) sx hV hB (isB_congr (fun v k => ?_) hS) kk
      constructor
      · intro z
        rcases z with z | ⟨b', z1, z2⟩
        · exact Or.inl z
        · exact Or.inr ⟨b', by omega, z2⟩
      · intro z
        rcases z with z | ⟨b', z1, z2, z3⟩
        · exact Or.inl z
        · by_cases y : b' = b
          · subst y
            exact absurd z2 q
          · exact Or.inr ⟨b', by omega, z2, z3⟩
