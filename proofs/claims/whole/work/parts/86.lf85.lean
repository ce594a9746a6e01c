-- BEST: the class lays the row that it found
theorem C_lf85 {c K : Nat} {D : Nat → Nat} {I0 : e_I} (hc : c ≤ 9) (hK : K ≤ 3) (hD : ∀ y, y < 3 → I0 20 y = nI (D y) ∧ D y < 9) {k127 : e_I → Option e_I} {Q : e_I → Prop} (kk : ∀ J T, fr (fun a _ => a = 21) I0 J → leaf K c T → (∀ p, p < min K c → T p = D p) → (∀ p, p < c → J 21 p = nI (T p)) → wp (k127 J) Q) : ∀ m x q n I T, x + m = c → m < n → min K c ≤ q → fr (fun a _ => a = 21) I0 I → (∀ p, p < q → I 21 p = nI (T p)) → (∀ p, p < min K c → T p = D p) → pre K c q T → (∀ p, min K c ≤ p → p < q → T p < x) → (∀ y, y < x → ∃ p, p < q ∧ T p = y) → wp (f_X3_layFound_85 (nI c) (nI (min K c)) k127 n (nI q) (nI x) I) Q := by
  intro m
  induction m with
  | zero =>
    intro x q n I T h0 hm hq fI hT hTD hpre hx hcov
    obtain ⟨n', rfl⟩ : ∃ k, n = k + 1 := ⟨n - 1, by omega⟩
    have h0 : x = c := h0
    subst h0
    have qc : q = x := by
      have a := inj_le hpre.1 hpre.2.1
      have b := sur_le hcov
      omega
    subst qc
    rw [f_X3_layFound_85]
    exact wp_t (nI_le (Nat.le_refl q) (by omega)) (kk I T fI hpre hTD hT)
  | succ m ih =>
    intro x q n I T h0 hm hq fI hT hTD hpre hx hcov
    obtain ⟨n', rfl⟩ : ∃ k, n = k + 1 := ⟨n - 1, by omega⟩
    have hxc : x < c := by omega
    have q9 : q ≤ c := inj_le hpre.1 hpre.2.1
    have D1 : ∀ y, y < 3 → I 20 y = nI (D y) ∧ D y < 9 := fun y hy => ⟨(fI 20 y (fun z => by cases z)).trans (hD y hy).1, (hD y hy).2⟩
    rw [f_X3_layFound_85]
    refine wp_f (c_ge hxc (by omega)) ?_
    rcases C_pick (I := I) (p := min K c) (x := x) (by omega) (by omega) D1 with ⟨⟨y, hy, ey⟩, e⟩ | ⟨hno, e⟩
    · -- picked
      have cov' : ∀ z, z < x + 1 → ∃ p, p < q ∧ T p = z := fun z hz => by
        by_cases w : z = x
        · exact ⟨y, by omega, by rw [hTD y hy, ey, w]⟩
        · exact hcov z (by omega)
      have go : wp (f_X3_layFound_121 (nI c) (nI (min K c)) (fun v5 v6 I => f_X3_layFound_85 (nI c) (nI (min K c)) k127 n' v5 v6 I) k127 (nI q) (nI x) I) Q := by
        unfold f_X3_layFound_121
        refine wp_let ?_
        rw [nI_1 x]
        exact ih (x + 1) q n' I T (by omega) (by omega) hq fI hT hTD hpre (fun p h1 h2 => by have := hx p h1 h2; omega) cov'
      rcases Nat.lt_or_ge q 9 with q8 | q8
      · exact wp_f (c_ge (N := 9) q8 (by decide)) (wp_e1 e (wp_t (by decide) go))
      · have qc : q = c := by omega
        exact wp_t (nI_le (a := 9) q8 (by omega)) (kk I T fI (qc ▸ hpre) hTD (qc ▸ hT))
    · -- x is free: it comes to place q
      have ne : ∀ p, p < q → T p ≠ x := fun p hp w => by
        rcases Nat.lt_or_ge p (min K c) with z | z
        · exact hno p z (by rw [← hTD p z]; exact w)
        · have := hx p z hp
          omega
      have u : ∀ p, p < q → (if p = q then x else T p) = T p := fun p hp => if_neg (by omega)
      have uq : (if q = q then x else T q) = x := if_pos rfl
      have pre' : pre K c (q + 1) (fun p => if p = q then x else T p) := by
        refine ⟨fun p hp => ?_, fun p r hp hr w => ?_, fun p h1 h2 y hy => ?_⟩
        · show (if p = q then x else T p) < c
          by_cases z : p = q
          · rw [if_pos z]
            exact hxc
          · rw [if_neg z]
            exact hpre.1 p (by omega)
        · have w : (if p = q then x else T p) = (if r = q then x else T r) := w
          by_cases z : p = q
          · rw [if_pos z] at w
            by_cases z2 : r = q
            · omega
            · rw [if_neg z2] at w
              exact absurd w.symm (ne r (by omega))
          · rw [if_neg z] at w
            by_cases z2 : r = q
            · rw [if_pos z2] at w
              exact absurd w (ne p (by omega))
            · rw [if_neg z2] at w
              exact hpre.2.1 p r (by omega) (by omega) w
        · have hy : y < (if p = q then x else T p) := hy
          by_cases z : p = q
          · rw [if_pos z] at hy
            obtain ⟨r, hr, er⟩ := hcov y hy
            exact ⟨r, by omega, by show (if r = q then x else T r) = y; rw [u r hr]; exact er⟩
          · rw [if_neg z] at hy
            obtain ⟨r, hr, er⟩ := hpre.2.2 p h1 (by omega) y hy
            exact ⟨r, hr, by show (if r = q then x else T r) = y; rw [u r (by omega)]; exact er⟩
      have qc : q + 1 ≤ c := inj_le pre'.1 pre'.2.1
      have q8 : q < 9 := by omega
      refine wp_f (c_ge (N := 9) q8 (by decide)) (wp_e1 e (wp_f (fun n => n rfl) (wp_as (nI_ix (by omega) (by omega)) (wp_let (wp_let ?_)))))
      unfold f_X3_layFound_121
      refine wp_let ?_
      rw [nI_1 x, nI_1 q, nI_clamp (n := q) (by omega)]
      refine ih (x + 1) (q + 1) n' (e_ui I 21 q (nI x)) (fun p => if p = q then x else T p) (by omega) (by omega) (by omega) (fr_tr fI (fr_ui rfl)) (fun p hp => ?_) (fun p hp => ?_) pre' (fun p h1 h2 => ?_) (fun y hy => ?_)
      · show e_ui I 21 q (nI x) 21 p = nI (if p = q then x else T p)
        by_cases z : p = q
        · rw [if_pos z, z]
          exact ui_s
        · rw [if_neg z]
          exact (ui_i z).trans (hT p (by omega))
      · show (if p = q then x else T p) = D p
        rw [u p (by omega)]
        exact hTD p hp
      · show (if p = q then x else T p) < x + 1
        by_cases z : p = q
        · rw [if_pos z]
          omega
        · rw [if_neg z]
          have := hx p h1 (by omega)
          omega
      · by_cases z : y = x
        · exact ⟨q, by omega, by show (if q = q then x else T q) = y; rw [uq, z]⟩
        · obtain ⟨r, hr, er⟩ := hcov y (by omega)
          exact ⟨r, by omega, by show (if r = q then x else T r) = y; rw [u r hr]; exact er⟩
def D3 (a b e p : Nat) : Nat := if p = 0 then a else if p = 1 then b else e
theorem C_layFound {I : e_I} {c K a b e : Nat} (hc : c ≤ 9) (hK : K ≤ 3) (ha : a < 9) (hb : b < 9) (he : e < 9) (h19 : I 19 2 = nI ((a * 9 + b) * 9 + e)) (hD : ∀ p, p < min K c → D3 a b e p < c) (hi : ∀ p q, p < min K c → q < min K c → D3 a b e p = D3 a b e q → p = q) : wp (f_X3_layFound (nI c) (nI K) I) (fun J => fr (fun x _ => x = 20 ∨ x = 21) I J ∧ ∃ T, leaf K c T ∧ (∀ p, p < min K c → T p = D3 a b e p) ∧ ∀ p, p < c → J 21 p = nI (T p)) := by
  unfold f_X3_layFound
  refine wp_let ?_
  rw [h19]
  refine C_dig ha hb he e_FU (wp_FU (by decide)) (wp_let ?_)
  rw [nI_min (a := K) (b := c) (by omega) (by omega)]
  have f0 : fr (fun x _ => x = 20 ∨ x = 21) I (e_ui (e_ui (e_ui I 20 2 (nI e)) 20 1 (nI b)) 20 0 (nI a)) := fr_tr (fr_tr (fr_ui (Or.inl rfl)) (fr_ui (Or.inl rfl))) (fr_ui (Or.inl rfl))
  have d0 : ∀ y, y < 3 → (e_ui (e_ui (e_ui I 20 2 (nI e)) 20 1 (nI b)) 20 0 (nI a)) 20 y = nI (D3 a b e y) ∧ D3 a b e y < 9 := fun y hy => by
    have cs : y = 0 ∨ y = 1 ∨ y = 2 := by omega
    rcases cs with rfl | rfl | rfl
    · exact ⟨rfl, ha⟩
    · exact ⟨rfl, hb⟩
    · exact ⟨rfl, he⟩
  generalize e_ui (e_ui (e_ui I 20 2 (nI e)) 20 1 (nI b)) 20 0 (nI a) = I1 at f0 d0 ⊢
  refine C_lf45 (p := min K c) (by omega) (min K c) 0 e_FU I1 (by omega) (wp_FU (by omega)) (fun J f1 f2 => ?_)
  have fJ : fr (fun x _ => x = 20 ∨ x = 21) I J := fr_tr f0 (fr_mono (fun x i z => Or.inr z.1) f1)
  have dJ : ∀ y, y < 3 → J 20 y = nI (D3 a b e y) ∧ D3 a b e y < 9 := fun y hy => ⟨(f1 20 y (fun z => by cases z.1)).trans (d0 y hy).1, (d0 y hy).2⟩
  refine C_lf85 hc hK dJ (fun E T g1 g2 g3 g4 => wp_some ⟨fr_tr fJ (fr_mono (fun x i z => Or.inr z) g1), T, g2, g3, g4⟩) c 0 (min K c) e_FU J (D3 a b e) (by omega) (wp_FU (by omega)) (Nat.le_refl _) fr_rfl (fun p hp => ?_) (fun p hp => rfl) ⟨hD, hi, fun p h1 h2 => by omega⟩ (fun p h1 h2 => by omega) (fun y hy => by omega)
  rw [f2 p (Nat.zero_le p) hp]
  exact (d0 p (by omega)).1
