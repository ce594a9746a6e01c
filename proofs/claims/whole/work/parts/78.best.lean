-- BEST: what fits, what is better
theorem C_fit {c p x y : Nat} (c0 : 0 < c) (hc : c < 2 ^ 31) (hp : p < 2 ^ 31) (hx : x < 2 ^ 31) (hy : y < 2 ^ 31) : f_X3_fit (nI c) (nI p) (nI x) (nI y) = some (if (p % c = 0 ↔ x = y) then 1 else 0) := by
  have m31 : p % c < 2 ^ 31 := Nat.lt_of_le_of_lt (Nat.mod_le _ _) hp
  have k15 : ∀ s : Nat, s ≤ 1 → f_X3_fit_15 (nI c) (nI p) (nI s) = some (if (p % c = 0 ↔ s = 1) then 1 else 0) := fun s hs => by
    unfold f_X3_fit_15 f_X3_fit_26 f_X3_fit_33 f_X3_fit_34
    unfold e_as
    rw [if_pos (nI_ne0 c0 hc), nI_rm c0 hp hc]
    have cs : s = 0 ∨ s = 1 := by omega
    by_cases q : p % c = 0
    · rw [if_neg (fun n => n (by rw [q]; rfl))]
      rcases cs with rfl | rfl
      · rw [if_pos (by decide), if_pos (by decide), if_neg (fun n => absurd (n.mp q) (by decide))]
      · rw [if_neg (by decide), if_pos (by decide), if_pos ⟨fun _ => rfl, fun _ => q⟩]
    · rw [if_pos (nI_ne0 (by omega) m31)]
      rcases cs with rfl | rfl
      · rw [if_neg (by decide), if_pos (by decide), if_pos ⟨fun n => absurd n q, fun n => absurd n (by decide)⟩]
      · rw [if_pos (by decide), if_pos (by decide), if_neg (fun n => q (n.mpr rfl))]
  unfold f_X3_fit
  rw [if_neg (nI_nle c0 hc)]
  by_cases q : x = y
  · subst q
    rw [if_neg (fun n => n rfl)]
    have k := k15 1 (by decide)
    have e : (if (p % c = 0 ↔ x = x) then (1 : Int32) else 0) = (if (p % c = 0 ↔ 1 = 1) then 1 else 0) := by
      by_cases z : p % c = 0
      · rw [if_pos ⟨fun _ => rfl, fun _ => z⟩, if_pos ⟨fun _ => rfl, fun _ => z⟩]
      · rw [if_neg (fun n => z (n.mpr rfl)), if_neg (fun n => z (n.mpr rfl))]
    rw [e]
    exact k
  · rw [if_pos (nI_n q hx hy)]
    have k := k15 0 (by decide)
    have e : (if (p % c = 0 ↔ x = y) then (1 : Int32) else 0) = (if (p % c = 0 ↔ 0 = 1) then 1 else 0) := by
      by_cases z : p % c = 0
      · rw [if_neg (fun n => q (n.mp z)), if_neg (fun n => absurd (n.mp z) (by decide))]
      · rw [if_pos ⟨fun n => absurd n z, fun n => absurd n q⟩, if_pos ⟨fun n => absurd n z, fun n => absurd n (by decide)⟩]
    rw [e]
    exact k
def bB (B : Option (Nat × Nat)) (v k : Nat) : Nat × Nat := match B with
  | none => (v, k)
  | some (v0, k0) => if v0 < v then (v, k) else if v = v0 ∧ k < k0 then (v, k) else (v0, k0)
def isB (S : Nat → Nat → Prop) (B : Option (Nat × Nat)) : Prop := match B with
  | none => ∀ v k, ¬ S v k
  | some (v, k) => S v k ∧ ∀ v' k', S v' k' → v' < v ∨ (v' = v ∧ k ≤ k')
theorem isB_add {S : Nat → Nat → Prop} {B : Option (Nat × Nat)} {v k : Nat} (h : isB S B) : isB (fun v' k' => S v' k' ∨ (v' = v ∧ k' = k)) (some (bB B v k)) := by
  cases B with
  | none =>
    refine ⟨Or.inr ⟨rfl, rfl⟩, fun v' k' z => ?_⟩
    rcases z with z | z
    · exact absurd z (h v' k')
    · exact Or.inr ⟨z.1, by omega⟩
  | some p =>
    obtain ⟨v0, k0⟩ := p
    obtain ⟨h1, h2⟩ := h
    unfold bB
    by_cases a : v0 < v
    · show isB _ (some (if v0 < v then (v, k) else _))
      rw [if_pos a]
      refine ⟨Or.inr ⟨rfl, rfl⟩, fun v' k' z => ?_⟩
      rcases z with z | z
      · have := h2 v' k' z
        omega
      · omega
    · show isB _ (some (if v0 < v then (v, k) else if v = v0 ∧ k < k0 then (v, k) else (v0, k0)))
      rw [if_neg a]
      by_cases b : v = v0 ∧ k < k0
      · rw [if_pos b]
        refine ⟨Or.inr ⟨rfl, rfl⟩, fun v' k' z => ?_⟩
        rcases z with z | z
        · have := h2 v' k' z
          omega
        · omega
      · rw [if_neg b]
        refine ⟨Or.inl h1, fun v' k' z => ?_⟩
        rcases z with z | z
        · exact h2 v' k' z
        · omega
theorem isB_congr {S T : Nat → Nat → Prop} {B : Option (Nat × Nat)} (h : ∀ v k, S v k ↔ T v k) (hb : isB S B) : isB T B := by
  cases B with
  | none => exact fun v k z => hb v k ((h v k).mpr z)
  | some p =>
    obtain ⟨v0, k0⟩ := p
    exact ⟨(h v0 k0).mp hb.1, fun v' k' z => hb.2 v' k' ((h v' k').mpr z)⟩
theorem isB_uniq {S : Nat → Nat → Prop} {B B' : Option (Nat × Nat)} (h : isB S B) (h' : isB S B') : B = B' := by
  cases B with
  | none =>
    cases B' with
    | none => rfl
    | some p => exact absurd h'.1 (h p.1 p.2)
  | some p =>
    cases B' with
    | none => exact absurd h.1 (h' p.1 p.2)
    | some p' =>
      obtain ⟨v, k⟩ := p
      obtain ⟨v', k'⟩ := p'
      have a := h.2 v' k' h'.1
      have b := h'.2 v k h.1
      have e1 : v = v' := by omega
      have e2 : k = k' := by omega
      rw [e1, e2]
-- the best so far, as the class keeps it
def c_best (B : Option (Nat × Nat)) (I : e_I) (L : e_L) : Prop := match B with
  | none => L 19 3 = -1
  | some (v, k) => L 19 3 = lN v ∧ I 19 2 = nI k ∧ v < 2 ^ 62 ∧ k < 1000
theorem C_compare {I : e_I} {L : e_L} {B : Option (Nat × Nat)} {v a b e : Nat} (h : c_best B I L) (hv : v < 2 ^ 62) (ha : a < 9) (hb : b < 9) (he : e < 9) : wp (f_X3_compare (lN v) (nI a) (nI b) (nI e) I L) (fun p => c_best (some (bB B v ((a * 9 + b) * 9 + e))) p.1 p.2 ∧ fr (fun x i => x = 19 ∧ i = 2) I p.1 ∧ frL (fun x i => x = 19 ∧ i = 3) L p.2) := by
  have n9 : (9 : Int32) = nI 9 := rfl
  have code : (nI a * 9 + nI b) * 9 + nI e = nI ((a * 9 + b) * 9 + e) := by
    rw [n9, nI_mul, nI_add, nI_mul, nI_add]
  have kb : (a * 9 + b) * 9 + e < 1000 := by omega
  have take : wp (f_X3_compare_42 (lN v) (nI ((a * 9 + b) * 9 + e)) I L) (fun p => c_best (some (v, (a * 9 + b) * 9 + e)) p.1 p.2 ∧ fr (fun x i => x = 19 ∧ i = 2) I p.1 ∧ frL (fun x i => x = 19 ∧ i = 3) L p.2) := by
    unfold f_X3_compare_42 f_X3_compare_53
    exact wp_let (wp_let (wp_some ⟨⟨(ul_s : e_ul L 19 3 (lN v) 19 3 = lN v), (ui_s : e_ui I 19 2 (nI ((a * 9 + b) * 9 + e)) 19 2 = nI ((a * 9 + b) * 9 + e)), hv, kb⟩, fr_ui ⟨rfl, rfl⟩, frL_ul ⟨rfl, rfl⟩⟩))
  unfold f_X3_compare
  refine wp_let ?_
  rw [code]
  cases B with
  | none =>
    have h : L 19 3 = -1 := h
    have gt : lg_cmp (lN v) (L 19 3) > 0 := by
      rw [h]
      refine Int32.not_le.mp (fun n => ?_)
      have le := (lg_cmp_le _ _).mp n
      exact absurd (lN_m1 (x := v) (by omega)) (Int64.not_lt.mpr le)
    exact wp_t gt take
  | some p =>
    obtain ⟨v0, k0⟩ := p
    obtain ⟨h1, h2, h3, h4⟩ := h
    have le : lg_cmp (lN v) (lN v0) ≤ 0 ↔ v ≤ v0 := lN_cmp (by omega) (by omega)
    have eq : lg_cmp (lN v) (lN v0) = 0 ↔ v = v0 := (lg_cmp_eq _ _).trans (lN_eq' (by omega) (by omega))
    rw [h1, h2]
    show wp _ (fun (p : e_I × e_L) => c_best (some (if v0 < v then (v, (a * 9 + b) * 9 + e) else if v = v0 ∧ (a * 9 + b) * 9 + e < k0 then (v, (a * 9 + b) * 9 + e) else (v0, k0))) p.1 p.2 ∧ _)
    have stay : wp (f_X3_compare_53 I L) (fun p => c_best (some (v0, k0)) p.1 p.2 ∧ fr (fun x i => x = 19 ∧ i = 2) I p.1 ∧ frL (fun x i => x = 19 ∧ i = 3) L p.2) := by
      unfold f_X3_compare_53
      exact wp_some ⟨⟨h1, h2, h3, h4⟩, fr_rfl, frL_rfl⟩
    refine wp_c (fun z => ?_) (fun z => ?_)
    · rw [if_pos (show v0 < v by
        rcases Nat.lt_or_ge v0 v with x | x
        · exact x
        · exact absurd (le.mpr x) (Int32.not_le.mpr z))]
      exact take
    · have z1 : v ≤ v0 := le.mp (Int32.not_lt.mp z)
      rw [if_neg (show ¬ v0 < v by omega)]
      refine wp_c (fun y => ?_) (fun y => ?_)
      · rw [if_neg (fun n => y (eq.mpr n.1))]
        exact stay
      · have y1 : v = v0 := by
          by_cases x : v = v0
          · exact x
          · exact absurd (fun n => x (eq.mp n)) y
        refine wp_c (fun u => ?_) (fun u => ?_)
        · rw [if_neg (fun n => by
            exact c_ge n.2 (by omega) u)]
          exact stay
        · rw [if_pos ⟨y1, by
            rcases Nat.lt_or_ge ((a * 9 + b) * 9 + e) k0 with x | x
            · exact x
            · exact absurd (nI_le x (by omega)) u⟩]
          exact take
