-- BEST: what the class's search finds, of all rows
theorem LV_row {s d f c sl ti K j : Nat} {CH : Nat → Nat → Nat} {R : Nat → Nat} : LV s d f c sl ti 0 K 0 0 CH R (j + 1) = rowV s d f (20 ^ j) ti CH (LV s d f c sl ti 0 K 0 0 CH R j) (R ((K - (j + 1)) % c)) (K - (j + 1)) := by
  funext st
  unfold rowV
  by_cases q : st < 24
  · rw [if_pos q, LV_s (by decide) q, Nat.zero_add]
    rfl
  · rw [if_neg q]
    show (if st < 24 then _ else 0) = 0
    rw [if_neg q]
theorem wK_LV {s d f c sl ti K : Nat} {CH : Nat → Nat → Nat} {R : Nat → Nat} (c0 : 0 < c) (h1 : 1 ≤ K) (hK : K ≤ 3) : wK s d f ti K CH (dg K c 2 R) (dg K c 1 R) (R 0) = LV s d f c sl ti 0 K 0 0 CH R K 0 := by
  have z0 : LV s d f c sl ti 0 K 0 0 CH R 0 = fun _ => 0 := rfl
  have top : ∀ j, K = j + 1 → LV s d f c sl ti 0 K 0 0 CH R K 0 = sW1 s d f (20 ^ j) ti CH (LV s d f c sl ti 0 K 0 0 CH R j) (R 0) := fun j hj => by
    have e : LV s d f c sl ti 0 K 0 0 CH R K 0 = LV s d f c sl ti 0 K 0 0 CH R (j + 1) 0 := by rw [← hj]
    rw [e, LV_row, hj, Nat.sub_self, Nat.zero_mod]
    rfl
  have cs : K = 1 ∨ K = 2 ∨ K = 3 := by omega
  unfold wK Vk V1k
  rcases cs with rfl | rfl | rfl
  · rw [if_pos (by decide), top 0 rfl, z0]
  · rw [if_neg (by decide), if_pos (by decide), top 1 rfl, LV_row, z0]
    have d1 : dg 2 c 1 R = R (1 % c) := if_neg (by decide)
    rw [d1]
  · rw [if_neg (by decide), if_neg (by decide), top 2 rfl, LV_row, LV_row, z0]
    have d1 : dg 3 c 1 R = R (1 % c) := if_neg (by decide)
    have d2 : dg 3 c 2 R = R (2 % c) := if_neg (by decide)
    rw [d1, d2]
theorem rowV_le {s d f c sl ti u b p B : Nat} {CH : Nat → Nat → Nat} {V : Nat → Nat} (hn : NV c s d f sl ti CH) (hb : b < c) (hV : ∀ q, q ≤ 24 → V q ≤ B) (st : Nat) : rowV s d f u ti CH V b p st ≤ 20 * (4 * u + B) := by
  unfold rowV
  by_cases q : st < 24
  · rw [if_pos q]
    have k := sH_le (any := false) (u := u) (sh := sh1 ti CH b p) hn.2.1 q hV
    rw [sh1_sum (hn.2.2.2.2 b hb)] at k
    exact k
  · rw [if_neg q]
    exact Nat.zero_le _
theorem wK_lt {s d f c sl ti K e b a : Nat} {CH : Nat → Nat → Nat} (hn : NV c s d f sl ti CH) (hK : K ≤ 3) (he : e < c) (hb : b < c) (ha : a < c) : wK s d f ti K CH e b a < 2 ^ 62 := by
  have p : ∀ n, n ≤ 2 → (20 : Nat) ^ n ≤ 400 := fun n hn => Nat.pow_le_pow_right (n := 20) (by decide) hn
  have v1 : ∀ q, q ≤ 24 → V1k s d f ti K CH e q ≤ 32000 := fun q _ => by
    unfold V1k
    by_cases z : K ≤ 2
    · rw [if_pos z]
      exact Nat.zero_le _
    · rw [if_neg z]
      have k := rowV_le (u := 20 ^ (K - 3)) (p := 2) (V := fun _ => 0) (B := 0) hn he (fun _ _ => Nat.le_refl 0) q
      have u := p (K - 3) (by omega)
      generalize 20 ^ (K - 3) = u0 at k u
      exact Nat.le_trans k (by omega)
  have v2 : ∀ q, q ≤ 24 → Vk s d f ti K CH (V1k s d f ti K CH e) b q ≤ 672000 := fun q _ => by
    unfold Vk
    by_cases z : K ≤ 1
    · rw [if_pos z]
      exact Nat.zero_le _
    · rw [if_neg z]
      have k := rowV_le (u := 20 ^ (K - 2)) (p := 1) hn hb v1 q
      have u := p (K - 2) (by omega)
      generalize 20 ^ (K - 2) = u0 at k u
      exact Nat.le_trans k (by omega)
  unfold wK sW1
  have k := sH_le (any := false) (u := 20 ^ (K - 1)) (st := 0) (sh := sh1 ti CH a 0) hn.2.1 (by decide) v2
  rw [sh1_sum (hn.2.2.2.2 a ha)] at k
  have u := p (K - 1) (by omega)
  generalize 20 ^ (K - 1) = u0 at k u ⊢
  exact Nat.lt_of_le_of_lt k (by omega)
-- a triple that fits, spelt out, is the beginning of one row
theorem fit_row {K c a b e : Nat} (c0 : 0 < c) (hc : c ≤ 9) (h1 : 1 ≤ K) (hK : K ≤ 3) (ha : a < c) (hb : b < if K ≤ 1 then 1 else c) (he : e < if K ≤ 2 then 1 else c) (pB : pb K c b e) (pA : pa K c a b e) : ∃ T, leaf K c T ∧ T 0 = a ∧ dg K c 1 T = b ∧ dg K c 2 T = e := by
  obtain ⟨q1, q2⟩ := pA
  have bc : b < c := by
    by_cases z : K ≤ 1
    · rw [if_pos z] at hb
      omega
    · rw [if_neg z] at hb
      exact hb
  have ec : e < c := by
    by_cases z : K ≤ 2
    · rw [if_pos z] at he
      omega
    · rw [if_neg z] at he
      exact he
  have n12 : 2 ≤ K → 2 ≤ c → a ≠ b := fun k1 k2 w => by
    rcases q1 with z | z
    · omega
    · have := z.mpr w
      rw [Nat.mod_eq_of_lt (by omega)] at this
      omega
  have n13 : 3 ≤ K → 3 ≤ c → a ≠ e := fun k1 k2 w => by
    rcases q2 with z | z
    · omega
    · have := z.mpr w
      rw [Nat.mod_eq_of_lt (by omega)] at this
      omega
  have n23 : 3 ≤ K → 2 ≤ c → b ≠ e := fun k1 k2 w => by
    rcases pB with z | z
    · omega
    · have := z.mpr w
      rw [Nat.mod_eq_of_lt (by omega)] at this
      omega
  have hD : ∀ p, p < min K c → D3 a b e p < c := fun p hp => by
    unfold D3
    by_cases z : p = 0
    · rw [if_pos z]
      exact ha
    · rw [if_neg z]
      by_cases z2 : p = 1
      · rw [if_pos z2]
        exact bc
      · rw [if_neg z2]
        exact ec
  have hi : ∀ p q, p < min K c → q < min K c → D3 a b e p = D3 a b e q → p = q := fun p q hp hq w => by
    have d0 : D3 a b e 0 = a := rfl
    have d1 : D3 a b e 1 = b := rfl
    have d2 : D3 a b e 2 = e := rfl
    have cp : p = 0 ∨ p = 1 ∨ p = 2 := by omega
    have cq : q = 0 ∨ q = 1 ∨ q = 2 := by omega
    rcases cp with rfl | rfl | rfl
    · rcases cq with rfl | rfl | rfl
      · rfl
      · rw [d0, d1] at w
        exact absurd w (n12 (by omega) (by omega))
      · rw [d0, d2] at w
        exact absurd w (n13 (by omega) (by omega))
    · rcases cq with rfl | rfl | rfl
      · rw [d0, d1] at w
        exact absurd w.symm (n12 (by omega) (by omega))
      · rfl
      · rw [d1, d2] at w
        exact absurd w (n23 (by omega) (by omega))
    · rcases cq with rfl | rfl | rfl
      · rw [d0, d2] at w
        exact absurd w.symm (n13 (by omega) (by omega))
      · rw [d1, d2] at w
        exact absurd w.symm (n23 (by omega) (by omega))
      · rfl
  have w := C_layFound (I := fun x _ => if x = 19 then nI ((a * 9 + b) * 9 + e) else 0) (K := K) hc hK (by omega) (by omega) (by omega) (if_pos rfl) hD hi
  obtain ⟨J, _, _, T, t1, t2, _⟩ := w
  refine ⟨T, t1, t2 0 (by omega), ?_, ?_⟩
  · unfold dg
    by_cases z : K ≤ 1
    · rw [if_pos z] at hb ⊢
      omega
    · rw [if_neg z]
      rcases Nat.lt_or_ge 1 c with y | y
      · rw [Nat.mod_eq_of_lt y]
        exact t2 1 (by omega)
      · have c1 : c = 1 := by omega
        subst c1
        rw [Nat.mod_one, t2 0 (by omega)]
        show a = b
        omega
  · unfold dg
    by_cases z : K ≤ 2
    · rw [if_pos z] at he ⊢
      omega
    · rw [if_neg z]
      have cs : c = 1 ∨ c = 2 ∨ 2 < c := by omega
      rcases cs with rfl | rfl | y
      · rw [Nat.mod_one, t2 0 (by omega)]
        show a = e
        omega
      · rw [Nat.mod_self, t2 0 (by omega)]
        show a = e
        rcases q2 with y | y
        · omega
        · exact y.mp (by decide)
      · rw [Nat.mod_eq_of_lt y]
        exact t2 2 (by omega)
theorem seen_all {s d f c sl ti K v k : Nat} {CH : Nat → Nat → Nat} (c0 : 0 < c) (hc : c ≤ 9) (h1 : 1 ≤ K) (hK : K ≤ 3) : seenO s d f ti K c CH (if K ≤ 2 then 1 else c) v k ↔ ∃ T, leaf K c T ∧ v = LV s d f c sl ti 0 K 0 0 CH T K 0 ∧ k = cod K c T := by
  constructor
  · intro ⟨e, he, b, hb, pB, a, ha, pA, ev, ek⟩
    obtain ⟨T, t1, t2, t3, t4⟩ := fit_row c0 hc h1 hK ha hb he pB pA
    refine ⟨T, t1, ?_, ?_⟩
    · rw [← wK_LV c0 h1 hK, t2, t3, t4]
      exact ev
    · unfold cod
      rw [t2, t3, t4]
      exact ek
  · intro ⟨T, t1, ev, ek⟩
    have inj : ∀ x y, x < c → y < c → (T x = T y ↔ x = y) := fun x y hx hy => ⟨t1.2.1 x y hx hy, fun z => by rw [z]⟩
    have m1 := Nat.mod_lt 1 c0
    have m2 := Nat.mod_lt 2 c0
    refine ⟨dg K c 2 T, ?_, dg K c 1 T, ?_, ?_, T 0, t1.1 0 c0, ⟨?_, ?_⟩, ?_, ek⟩
    · unfold dg
      by_cases z : K ≤ 2
      · rw [if_pos z, if_pos z]
        decide
      · rw [if_neg z, if_neg z]
        exact t1.1 _ m2
    · unfold dg
      by_cases z : K ≤ 1
      · rw [if_pos z, if_pos z]
        decide
      · rw [if_neg z, if_neg z]
        exact t1.1 _ m1
    · rcases Nat.lt_or_ge K 3 with z | z
      · exact Or.inl z
      · refine Or.inr ?_
        unfold dg
        rw [if_neg (by omega), if_neg (by omega), inj _ _ m1 m2]
        have cs : c = 1 ∨ c = 2 ∨ 2 < c := by omega
        rcases cs with rfl | rfl | y
        · decide
        · decide
        · rw [Nat.mod_eq_of_lt y, Nat.mod_eq_of_lt (show 1 < c by omega)]
          decide
    · rcases Nat.lt_or_ge K 2 with z | z
      · exact Or.inl z
      · refine Or.inr ?_
        unfold dg
        rw [if_neg (by omega), inj _ _ c0 m1]
        omega
    · rcases Nat.lt_or_ge K 3 with z | z
      · exact Or.inl z
      · refine Or.inr ?_
        unfold dg
        rw [if_neg (by omega), inj _ _ c0 m2]
        omega
    · show v = wK s d f ti K CH (dg K c 2 T) (dg K c 1 T) (T 0)
      rw [wK_LV (sl := sl) c0 h1 hK]
      exact ev
-- BEST: the class's search, whole
def cSk (a _i : Nat) : Prop := a = 17 ∨ a = 19 ∨ a = 20 ∨ a = 21
abbrev rowsOf (s d f c sl ti K : Nat) (CH : Nat → Nat → Nat) (v k : Nat) : Prop := ∃ T, leaf K c T ∧ v = LV s d f c sl ti 0 K 0 0 CH T K 0 ∧ k = cod K c T
theorem C_seek {g c s d f sl ti K : Nat} {CH : Nat → Nat → Nat} {O : Nat → Nat} {I : e_I} {L : e_L} (hg : 23 ≤ g) (hn : NV c s d f sl ti CH) (h1 : 1 ≤ K) (hK : K ≤ 3) (cv : CV I g c s d f sl ti CH O) (hT : c_T I s d f) (h11 : I 11 5 = 0) (hz : c_Z L) : wp (f_X3_seek g (nI K) I L) (fun q => fr cSk I q.1 ∧ c_Z q.2 ∧ c_U q.2 20 ∧ ∃ v R, leaf K c R ∧ q.2 19 3 = lN v ∧ v < 2 ^ 62 ∧ isB (rowsOf s d f c sl ti K CH) (some (v, cod K c R)) ∧ ∀ p, p < c → q.1 21 p = nI (R p)) := by
  have c0 := hn.1.1
  have c9 := hn.1.2
  unfold f_X3_seek
  refine wp_let (wp_let (wp_let ?_))
  rw [cv.1]
  refine wp_c1 (C_scaleBy (sc := 20) (L := e_ul L 19 3 (-1))) (fun M hM => ?_)
  obtain ⟨m1, m2⟩ := hM
  have m1 : frL (fun a _ => a = 16) (e_ul L 19 3 (-1)) M := m1
  have mM : ∀ a i, a ≠ 16 → a ≠ 19 → M a i = L a i := fun a i x y => (m1 a i x).trans (ul_a y)
  have zM : c_Z M := c_Z_fr (fun i => mM 15 i (by decide) (by decide)) (fun i => mM 18 i (by decide) (by decide)) hz
  have b0 : c_best none (e_ui I 19 2 0) M := (m1 19 3 (fun z => by cases z)).trans ul_s
  have fI : fr cSk I (e_ui I 19 2 0) := fr_ui (Or.inr (Or.inl rfl))
  have sx : SX g c s d f sl ti CH O (e_ui I 19 2 0) M := ⟨CV_fr (fun i => ui_a (by omega)) (fun i => ui_a (by omega)) (fun i => ui_a (by omega)) (fun i => ui_a (by omega)) cv, c_T_fr (fun i => ui_a (by decide)) (fun i => ui_a (by decide)) hT, (ui_a (by decide)).trans h11, m2, zM⟩
  refine C_s28 hg hn h1 hK (fun e b a he hb ha => wK_lt hn hK he hb ha) (if K ≤ 2 then 1 else c) 0 e_FU none (e_ui I 19 2 0) M (by omega) (wp_FU (by split <;> omega)) sx b0 (fun v k z => ?_) (fun B' I' L' y1 y2 y3 y4 y5 => ?_)
  · obtain ⟨e', z, _⟩ := z
    omega
  · have y6 : isB (rowsOf s d f c sl ti K CH) B' := isB_congr (fun v k => seen_all c0 c9 h1 hK) y5
    cases B' with
    | none => exact absurd ⟨_, leaf_id, rfl, rfl⟩ (y6 _ _)
    | some p =>
      obtain ⟨v, k⟩ := p
      obtain ⟨w1, w2, w3, w4⟩ := y4
      obtain ⟨T, t1, t2, t3⟩ := y6.1
      have g1 := dg_lt (j := 1) t1 c0 c9
      have g2 := dg_lt (j := 2) t1 c0 c9
      have t0 := t1.1 0 c0
      have dT : ∀ p, p < min K c → D3 (T 0) (dg K c 1 T) (dg K c 2 T) p = T p := fun p hp => by
        have cs : p = 0 ∨ p = 1 ∨ p = 2 := by omega
        rcases cs with rfl | rfl | rfl
        · rfl
        · exact dg_at hp
        · exact dg_at hp
      refine wp_c1 (C_layFound (a := T 0) (b := dg K c 1 T) (e := dg K c 2 T) c9 hK (by omega) g1 g2 (by rw [w2, t3]; rfl) (fun p hp => by rw [dT p hp]; exact t1.1 p (by omega)) (fun p q hp hq z => by
        rw [dT p hp, dT q hq] at z
        exact t1.2.1 p q (by omega) (by omega) z)) (fun J hJ => ?_)
      obtain ⟨j1, Y, j2, j3, j4⟩ := hJ
      have j1 : fr (fun x _ => x = 20 ∨ x = 21) I' J := j1
      have f1 : fr cSk I I' := fr_tr fI (fr_mono (fun a i z => by
        rcases z with z | z
        · exact Or.inl z
        · exact Or.inr (Or.inl z)) y1)
      refine wp_some ⟨fr_tr f1 (fr_mono (fun a i z => Or.inr (Or.inr z)) j1), y3.2.2.2.2, y3.2.2.2.1, v, T, t1, w1, w3, t3 ▸ y6, fun p hp => ?_⟩
      show J 21 p = nI (T p)
      rw [j4 p hp, leaf_uniq j2 t1 (fun q hq => (j3 q hq).trans (dT q hq)) (p + 1) p (by omega) hp]
