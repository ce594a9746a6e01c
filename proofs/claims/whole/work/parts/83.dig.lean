-- BEST: the digits of what was found
theorem C_dig {a b e : Nat} {v1 v2 : Int32} {I : e_I} {k : e_I → Option e_I} {Q : e_I → Prop} (ha : a < 9) (hb : b < 9) (he : e < 9) (n : Nat) (hn : 3 < n) (kk : wp (k (e_ui (e_ui (e_ui I 20 2 (nI e)) 20 1 (nI b)) 20 0 (nI a))) Q) : wp (f_X3_layFound_8 v1 v2 k n (nI ((a * 9 + b) * 9 + e)) 2 I) Q := by
  obtain ⟨n', rfl⟩ : ∃ k, n = k + 1 + 1 + 1 + 1 := ⟨n - 4, by omega⟩
  have n9 : (9 : Int32) = nI 9 := rfl
  have r1 : e_rm (nI ((a * 9 + b) * 9 + e)) 9 = nI e := by
    rw [n9, nI_rm (by decide) (by omega) (by decide), show ((a * 9 + b) * 9 + e) % 9 = e by omega]
  have d1 : nI ((a * 9 + b) * 9 + e) / 9 = nI (a * 9 + b) := by
    rw [n9, nI_div (by decide) (by omega) (by decide), show ((a * 9 + b) * 9 + e) / 9 = a * 9 + b by omega]
  have r2 : e_rm (nI (a * 9 + b)) 9 = nI b := by
    rw [n9, nI_rm (by decide) (by omega) (by decide), show (a * 9 + b) % 9 = b by omega]
  have d2 : nI (a * 9 + b) / 9 = nI a := by
    rw [n9, nI_div (by decide) (by omega) (by decide), show (a * 9 + b) / 9 = a by omega]
  have r3 : e_rm (nI a) 9 = nI a := by
    rw [n9, nI_rm (by decide) (by omega) (by decide), show a % 9 = a by omega]
  have t2 : (2 : Int32).toNatClampNeg = 2 := rfl
  have t1 : (1 : Int32).toNatClampNeg = 1 := rfl
  have t0 : (0 : Int32).toNatClampNeg = 0 := rfl
  have m2 : (2 : Int32) + (-1) = 1 := by decide
  have m1 : (1 : Int32) + (-1) = 0 := by decide
  rw [f_X3_layFound_8]
  refine wp_f (by decide) (wp_as (by decide) (wp_let (wp_let (wp_let ?_))))
  rw [r1, d1, m2, t2, f_X3_layFound_8]
  refine wp_f (by decide) (wp_as (by decide) (wp_let (wp_let (wp_let ?_))))
  rw [r2, d2, m1, t1, f_X3_layFound_8]
  refine wp_f (by decide) (wp_as (by decide) (wp_let (wp_let (wp_let ?_))))
  rw [r3, t0, f_X3_layFound_8]
  exact wp_t (by decide) kk
-- the first places
theorem C_lf45 {v1 : Int32} {p : Nat} (hp : p ≤ 3) {k78 : e_I → Option e_I} {Q : e_I → Prop} : ∀ m i n I, i + m = p → m < n → (∀ J, fr (fun a x => a = 21 ∧ i ≤ x ∧ x < p) I J → (∀ x, i ≤ x → x < p → J 21 x = I 20 x) → wp (k78 J) Q) → wp (f_X3_layFound_45 v1 (nI p) k78 n (nI i) I) Q := by
  intro m
  induction m with
  | zero =>
    intro i n I h0 hm kk
    obtain ⟨n', rfl⟩ : ∃ k, n = k + 1 := ⟨n - 1, by omega⟩
    have h0 : i = p := h0
    subst h0
    rw [f_X3_layFound_45]
    exact wp_t (nI_le (Nat.le_refl i) (by omega)) (kk I fr_rfl (fun x h1 h2 => by omega))
  | succ m ih =>
    intro i n I h0 hm kk
    obtain ⟨n', rfl⟩ : ∃ k, n = k + 1 := ⟨n - 1, by omega⟩
    have hi : i < p := by omega
    rw [f_X3_layFound_45]
    refine wp_f (c_ge hi (by omega)) (wp_f (c_ge (N := 3) (by omega) (by decide)) (wp_as (nI_ix (by omega) (by omega)) (wp_as (nI_ix (by omega) (by omega)) (wp_let (wp_let ?_)))))
    rw [nI_1 i, nI_clamp (n := i) (by omega)]
    refine ih (i + 1) n' (e_ui I 21 i (I 20 i)) (by omega) (by omega) (fun J f1 f2 => kk J (fun a x z => ?_) (fun x h1 h2 => ?_))
    · rw [f1 a x (fun y => z ⟨y.1, by omega, y.2.2⟩)]
      by_cases y : a = 21
      · subst y
        exact ui_i (fun w => z ⟨rfl, by omega, by omega⟩)
      · exact ui_a y
    · by_cases y : x = i
      · subst y
        rw [f1 21 x (fun w => by omega)]
        exact ui_s
      · rw [f2 x (by omega) h2]
        exact ui_a (by decide)
