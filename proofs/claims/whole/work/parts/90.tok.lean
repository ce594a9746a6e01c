-- TEXT: tokens, as numbers
def rnT (D : Nat → Nat) (P : Nat → Bool) : Nat → Nat → Nat
  | 0, p => p
  | m + 1, p => if P (D p) = true then rnT D P m (p + 1) else p
theorem rnT_le {D : Nat → Nat} {P : Nat → Bool} : ∀ m p, p ≤ rnT D P m p ∧ rnT D P m p ≤ p + m
  | 0, p => ⟨Nat.le_refl p, Nat.le_refl p⟩
  | m + 1, p => by
    show p ≤ (if P (D p) = true then rnT D P m (p + 1) else p) ∧ (if P (D p) = true then rnT D P m (p + 1) else p) ≤ p + (m + 1)
    have h := rnT_le (D := D) (P := P) m (p + 1)
    by_cases q : P (D p) = true
    · rw [if_pos q]
      omega
    · rw [if_neg q]
      omega
theorem rnT_in {D : Nat → Nat} {P : Nat → Bool} : ∀ m p k, p ≤ k → k < rnT D P m p → P (D k) = true
  | 0, p, k, h1, h2 => by
    have h2 : k < p := h2
    omega
  | m + 1, p, k, h1, h2 => by
    have h2 : k < (if P (D p) = true then rnT D P m (p + 1) else p) := h2
    by_cases q : P (D p) = true
    · rw [if_pos q] at h2
      by_cases z : k = p
      · rw [z]
        exact q
      · exact rnT_in m (p + 1) k (by omega) h2
    · rw [if_neg q] at h2
      omega
theorem rnT_end {D : Nat → Nat} {P : Nat → Bool} : ∀ m p, rnT D P m p < p + m → ¬ P (D (rnT D P m p)) = true
  | 0, p, h => by
    have h : p < p + 0 := h
    omega
  | m + 1, p, h => by
    have h : (if P (D p) = true then rnT D P m (p + 1) else p) < p + (m + 1) := h
    show ¬ P (D (if P (D p) = true then rnT D P m (p + 1) else p)) = true
    by_cases q : P (D p) = true
    · rw [if_pos q] at h ⊢
      exact rnT_end m (p + 1) (by omega)
    · rw [if_neg q]
      exact q
def isS (x : Nat) : Bool := Nat.beq x 32
def isL (x : Nat) : Bool := Nat.ble 97 x && Nat.ble x 122
def isD (x : Nat) : Bool := Nat.ble 48 x && Nat.ble x 57
theorem isS_i {x : Nat} : isS x = true ↔ x = 32 := ⟨fun h => Nat.eq_of_beq_eq_true h, fun h => by rw [h]; rfl⟩
theorem isL_i {x : Nat} : isL x = true ↔ (97 ≤ x ∧ x ≤ 122) := by
  unfold isL
  rw [Bool.and_eq_true]
  exact ⟨fun h => ⟨Nat.le_of_ble_eq_true h.1, Nat.le_of_ble_eq_true h.2⟩, fun h => ⟨Nat.ble_eq_true_of_le h.1, Nat.ble_eq_true_of_le h.2⟩⟩
theorem isD_i {x : Nat} : isD x = true ↔ (48 ≤ x ∧ x ≤ 57) := by
  unfold isD
  rw [Bool.and_eq_true]
  exact ⟨fun h => ⟨Nat.le_of_ble_eq_true h.1, Nat.le_of_ble_eq_true h.2⟩, fun h => ⟨Nat.ble_eq_true_of_le h.1, Nat.ble_eq_true_of_le h.2⟩⟩
-- a byte as the class keeps it
def byt (x : Int32) (d : Nat) : Prop := d < 256 ∧ (d < 128 → x = nI d) ∧ (128 ≤ d → x < 0)
theorem byt_lt {x : Int32} {d k : Nat} (h : byt x d) (hk : k < 128) : x < nI k ↔ (d < k ∨ 128 ≤ d) := by
  rcases Nat.lt_or_ge d 128 with z | z
  · rw [h.2.1 z, nI_ltI (by omega) (by omega)]
    omega
  · have a := h.2.2 z
    have b : (0 : Int32) ≤ nI k := nI_le (a := 0) (b := k) (Nat.zero_le k) (by omega)
    exact ⟨fun _ => Or.inr z, fun _ => Int32.lt_of_lt_of_le a b⟩
theorem byt_eq {x : Int32} {d k : Nat} (h : byt x d) (hk : k < 128) : x = nI k ↔ d = k := by
  rcases Nat.lt_or_ge d 128 with z | z
  · rw [h.2.1 z, nI_eq (by omega) (by omega)]
  · have a := h.2.2 z
    refine ⟨fun e => ?_, fun e => by omega⟩
    rw [e] at a
    exact absurd a (nI_pos (by omega))
theorem C_isLetter {x : Int32} {d : Nat} (h : byt x d) : f_X6_isLetter x = some (if isL d = true then 1 else 0) := by
  have l : x < 97 ↔ (d < 97 ∨ 128 ≤ d) := byt_lt (k := 97) h (by decide)
  have g : x < 123 ↔ (d < 123 ∨ 128 ≤ d) := byt_lt (k := 123) h (by decide)
  have g2 : x > 122 ↔ ¬ x < 123 := by
    rw [Int32.not_lt]
    show 122 < x ↔ 123 ≤ x
    rw [Int32.lt_iff_toInt_lt, Int32.le_iff_toInt_le]
    exact ⟨fun y => y, fun y => y⟩
  unfold f_X6_isLetter f_X6_isLetter_16 f_X6_isLetter_17 e_as
  by_cases a : x < 97
  · have := l.mp a
    rw [if_pos a, if_pos (Or.inl rfl), if_neg (fun n => by have := isL_i.mp n; omega)]
  · rw [if_neg a]
    by_cases b : x > 122
    · have b' := g2.mp b
      rw [g] at b'
      rw [if_pos b, if_pos (Or.inl rfl), if_neg (fun n => by have := isL_i.mp n; omega)]
    · have b' : x < 123 := by
        by_cases w : x < 123
        · exact w
        · exact absurd (g2.mpr w) b
      rw [g] at b'
      rw [l] at a
      rw [if_neg b, if_pos (Or.inr rfl), if_pos (isL_i.mpr (by omega))]
theorem C_isDigit {x : Int32} {d : Nat} (h : byt x d) : f_X6_isDigit x = some (if isD d = true then 1 else 0) := by
  have l : x < 48 ↔ (d < 48 ∨ 128 ≤ d) := byt_lt (k := 48) h (by decide)
  have g : x < 58 ↔ (d < 58 ∨ 128 ≤ d) := byt_lt (k := 58) h (by decide)
  have g2 : x > 57 ↔ ¬ x < 58 := by
    rw [Int32.not_lt]
    show 57 < x ↔ 58 ≤ x
    rw [Int32.lt_iff_toInt_lt, Int32.le_iff_toInt_le]
    exact ⟨fun y => y, fun y => y⟩
  unfold f_X6_isDigit f_X6_isDigit_16 f_X6_isDigit_17 e_as
  by_cases a : x < 48
  · have := l.mp a
    rw [if_pos a, if_pos (Or.inl rfl), if_neg (fun n => by have := isD_i.mp n; omega)]
  · rw [if_neg a]
    by_cases b : x > 57
    · have b' := g2.mp b
      rw [g] at b'
      rw [if_pos b, if_pos (Or.inl rfl), if_neg (fun n => by have := isD_i.mp n; omega)]
    · have b' : x < 58 := by
        by_cases w : x < 58
        · exact w
        · exact absurd (g2.mpr w) b
      rw [g] at b'
      rw [l] at a
      rw [if_neg b, if_pos (Or.inr rfl), if_pos (isD_i.mpr (by omega))]
-- where a token begins, where it ends, its kind, its letters, its number
def tq (N : Nat) (D : Nat → Nat) (p : Nat) : Nat := rnT D isS (N - p) p
def te (N : Nat) (D : Nat → Nat) (p : Nat) : Nat := if tq N D p < N then (if isL (D (tq N D p)) = true then rnT D isL (N - tq N D p) (tq N D p) else if isD (D (tq N D p)) = true then rnT D isD (N - tq N D p) (tq N D p) else tq N D p + 1) else tq N D p
def tk (N : Nat) (D : Nat → Nat) (p : Nat) : Nat := if tq N D p < N then (if isL (D (tq N D p)) = true then (if te N D p - tq N D p ≤ 6 then 0 else 4) else if isD (D (tq N D p)) = true then (if te N D p - tq N D p ≤ 2 then 1 else 4) else if D (tq N D p) = 59 then 2 else 4) else 3
def wl (D : Nat → Nat) (q : Nat) : Nat → List Nat
  | 0 => []
  | n + 1 => wl D q n ++ [D (q + n) - 96]
def nv (D : Nat → Nat) (q : Nat) : Nat → Nat
  | 0 => 0
  | n + 1 => nv D q n * 10 + (D (q + n) - 48)
def tw (N : Nat) (D : Nat → Nat) (p : Nat) : List Nat := wl D (tq N D p) (te N D p - tq N D p)
def tv (N : Nat) (D : Nat → Nat) (p : Nat) : Nat := nv D (tq N D p) (te N D p - tq N D p)
theorem code_1 {D : Nat → Nat} {q n : Nat} : r_code (wl D q (n + 1)) = r_code (wl D q n) * 27 + (D (q + n) - 96) := by
  show r_code (wl D q n ++ [D (q + n) - 96]) = _
  unfold r_code
  rw [List.foldl_append]
  rfl
theorem tq_le {N p : Nat} {D : Nat → Nat} (h : p ≤ N) : p ≤ tq N D p ∧ tq N D p ≤ N := by
  have := rnT_le (D := D) (P := isS) (N - p) p
  unfold tq
  omega
theorem te_le {N p : Nat} {D : Nat → Nat} (h : p ≤ N) : tq N D p ≤ te N D p ∧ te N D p ≤ N := by
  have a := tq_le (D := D) h
  unfold te
  by_cases q : tq N D p < N
  · rw [if_pos q]
    by_cases l : isL (D (tq N D p)) = true
    · rw [if_pos l]
      have := rnT_le (D := D) (P := isL) (N - tq N D p) (tq N D p)
      omega
    · rw [if_neg l]
      by_cases d : isD (D (tq N D p)) = true
      · rw [if_pos d]
        have := rnT_le (D := D) (P := isD) (N - tq N D p) (tq N D p)
        omega
      · rw [if_neg d]
        omega
  · rw [if_neg q]
    omega
theorem rnT_lt {D : Nat → Nat} {P : Nat → Bool} {m p : Nat} (hm : 0 < m) (h : P (D p) = true) : p < rnT D P m p := by
  obtain ⟨k, rfl⟩ : ∃ k, m = k + 1 := ⟨m - 1, by omega⟩
  show p < (if P (D p) = true then rnT D P k (p + 1) else p)
  rw [if_pos h]
  have := (rnT_le (D := D) (P := P) k (p + 1)).1
  omega
-- the class's tape and its step
def cT (I : e_I) (N : Nat) (D : Nat → Nat) : Prop := ∀ i, i < N → byt (I 5 i) (D i)
def sS (a i : Nat) : Prop := a = 1 ∧ (i = 5 ∨ i = 10 ∨ i = 11 ∨ i = 12)
def sP (a i : Nat) : Prop := a = 1 ∧ (i = 10 ∨ i = 12)
theorem cT_fr {I J : e_I} {N : Nat} {D : Nat → Nat} (h : ∀ i, J 5 i = I 5 i) (hc : cT I N D) : cT J N D := fun i hi => by
  rw [h]
  exact hc i hi
theorem C_sp {N : Nat} {D : Nat → Nat} (hN : N ≤ 500) {k38 : e_I → Option e_I} {Q : e_I → Prop} : ∀ m p n I, p + m = N → m < n → cT I N D → I 1 10 = nI p → I 1 9 = nI N → (∀ J, fr sP I J → J 1 10 = nI (rnT D isS m p) → wp (k38 J) Q) → wp (f_X6_step_0 k38 n I) Q := by
  intro m
  induction m with
  | zero =>
    intro p n I h0 hm hc h10 h9 kk
    obtain ⟨n', rfl⟩ : ∃ k, n = k + 1 := ⟨n - 1, by omega⟩
    have h0 : p = N := h0
    rw [f_X6_step_0, h10, h9]
    exact wp_t (nI_le (by omega) (by omega)) (kk I fr_rfl h10)
  | succ m ih =>
    intro p n I h0 hm hc h10 h9 kk
    obtain ⟨n', rfl⟩ : ∃ k, n = k + 1 := ⟨n - 1, by omega⟩
    have e32 : I 5 p = 32 ↔ D p = 32 := byt_eq (k := 32) (hc p (by omega)) (by decide)
    rw [f_X6_step_0, h10, h9, nI_clamp (n := p) (by omega)]
    refine wp_f (c_ge (by omega) (by omega)) (wp_as (nI_ix (by omega) (by omega)) (wp_c (fun z => ?_) (fun z => ?_)))
    · refine kk I fr_rfl ?_
      rw [h10]
      show nI p = nI (if isS (D p) = true then rnT D isS m (p + 1) else p)
      rw [if_neg (fun y => z (e32.mpr (isS_i.mp y)))]
    · have z : I 5 p = 32 := by
        by_cases y : I 5 p = 32
        · exact y
        · exact absurd y z
      refine wp_let ?_
      rw [nI_1 p]
      refine ih (p + 1) n' (e_ui I 1 10 (nI (p + 1))) (by omega) (by omega) (cT_fr (fun i => ui_a (by decide)) hc) ui_s ((ui_i (by decide)).trans h9) (fun J f1 f2 => kk J (fr_tr (fr_ui ⟨rfl, Or.inl rfl⟩) f1) ?_)
      rw [f2]
      show _ = nI (if isS (D p) = true then rnT D isS m (p + 1) else p)
      rw [if_pos (isS_i.mpr (e32.mp z))]
theorem C_lets {N : Nat} {D : Nat → Nat} (hN : N ≤ 500) {k59 : e_I → Option e_I} {Q : e_I → Prop} {q : Nat} : ∀ m j n I, q + j + m = N → m < n → cT I N D → (∀ i, i < j → isL (D (q + i)) = true) → I 1 10 = nI (q + j) → I 1 12 = nI (r_code (wl D q j)) → I 1 9 = nI N → (∀ J, fr sP I J → J 1 10 = nI (rnT D isL m (q + j)) → J 1 12 = nI (r_code (wl D q (rnT D isL m (q + j) - q))) → wp (k59 J) Q) → wp (f_X6_stepOverLetters_0 k59 n I) Q := by
  intro m
  induction m with
  | zero =>
    intro j n I h0 hm hc hl h10 h12 h9 kk
    obtain ⟨n', rfl⟩ : ∃ k, n = k + 1 := ⟨n - 1, by omega⟩
    have h0 : q + j = N := h0
    rw [f_X6_stepOverLetters_0, h10, h9]
    refine wp_t (nI_le (by omega) (by omega)) (kk I fr_rfl h10 ?_)
    show I 1 12 = nI (r_code (wl D q (q + j - q)))
    rw [Nat.add_sub_cancel_left]
    exact h12
  | succ m ih =>
    intro j n I h0 hm hc hl h10 h12 h9 kk
    obtain ⟨n', rfl⟩ : ∃ k, n = k + 1 := ⟨n - 1, by omega⟩
    have hb := hc (q + j) (by omega)
    rw [f_X6_stepOverLetters_0, h10, h9, nI_clamp (n := q + j) (by omega)]
    refine wp_f (c_ge (by omega) (by omega)) (wp_as (nI_ix (by omega) (by omega)) (wp_e1 (C_isLetter hb) ?_))
    by_cases z : isL (D (q + j)) = true
    · have lz := isL_i.mp z
      have ev : I 5 (q + j) = nI (D (q + j)) := hb.2.1 (by omega)
      have wv : f_X6_withLetter (I 1 12) (I 5 (q + j)) = some (nI (r_code (wl D q (j + 1)))) := by
        unfold f_X6_withLetter
        have s97 : nI (D (q + j)) - 97 = nI (D (q + j) - 97) := nI_sub (b := 97) lz.1
        rw [h12, ev, s97, nI_1, code_1]
        have e27 : nI (r_code (wl D q j)) * 27 = nI (r_code (wl D q j) * 27) := nI_mul _ 27
        rw [e27, nI_add, show D (q + j) - 97 + 1 = D (q + j) - 96 by omega]
      rw [if_pos z]
      refine wp_f (by decide) (wp_as (nI_ix (by omega) (by omega)) (wp_e1 wv (wp_let (wp_let ?_))))
      rw [(ui_i (by decide) : e_ui I 1 12 (nI (r_code (wl D q (j + 1)))) 1 10 = I 1 10), h10, nI_1 (q + j)]
      refine ih (j + 1) n' (e_ui (e_ui I 1 12 (nI (r_code (wl D q (j + 1))))) 1 10 (nI (q + j + 1))) (by omega) (by omega) (cT_fr (fun i => (ui_a (by decide)).trans (ui_a (by decide))) hc) (fun i hi => ?_) ui_s ((ui_i (by decide)).trans ui_s) ((ui_i (by decide)).trans ((ui_i (by decide)).trans h9)) (fun J f1 f2 f3 => ?_)
      · by_cases y : i = j
        · rw [y]
          exact z
        · exact hl i (by omega)
      · have er : rnT D isL (m + 1) (q + j) = rnT D isL m (q + (j + 1)) := by
          show (if isL (D (q + j)) = true then rnT D isL m (q + j + 1) else q + j) = _
          rw [if_pos z]
          rfl
        refine kk J (fr_tr (fr_tr (fr_ui ⟨rfl, Or.inr rfl⟩) (fr_ui ⟨rfl, Or.inl rfl⟩)) f1) ?_ ?_
        · rw [er]
          exact f2
        · rw [er]
          exact f3
    · rw [if_neg z]
      have er : rnT D isL (m + 1) (q + j) = q + j := if_neg z
      refine wp_t rfl (kk I fr_rfl ?_ ?_)
      · rw [er]
        exact h10
      · rw [er, Nat.add_sub_cancel_left]
        exact h12
theorem C_digs {N : Nat} {D : Nat → Nat} (hN : N ≤ 500) {k63 : e_I → Option e_I} {Q : e_I → Prop} {q : Nat} : ∀ m j n I, q + j + m = N → m < n → cT I N D → I 1 10 = nI (q + j) → I 1 12 = nI (nv D q j) → I 1 9 = nI N → (∀ J, fr sP I J → J 1 10 = nI (rnT D isD m (q + j)) → J 1 12 = nI (nv D q (rnT D isD m (q + j) - q)) → wp (k63 J) Q) → wp (f_X6_stepOverDigits_0 k63 n I) Q := by
  intro m
  induction m with
  | zero =>
    intro j n I h0 hm hc h10 h12 h9 kk
    obtain ⟨n', rfl⟩ : ∃ k, n = k + 1 := ⟨n - 1, by omega⟩
    have h0 : q + j = N := h0
    rw [f_X6_stepOverDigits_0, h10, h9]
    refine wp_t (nI_le (by omega) (by omega)) (kk I fr_rfl h10 ?_)
    show I 1 12 = nI (nv D q (q + j - q))
    rw [Nat.add_sub_cancel_left]
    exact h12
  | succ m ih =>
    intro j n I h0 hm hc h10 h12 h9 kk
    obtain ⟨n', rfl⟩ : ∃ k, n = k + 1 := ⟨n - 1, by omega⟩
    have hb := hc (q + j) (by omega)
    rw [f_X6_stepOverDigits_0, h10, h9, nI_clamp (n := q + j) (by omega)]
    refine wp_f (c_ge (by omega) (by omega)) (wp_as (nI_ix (by omega) (by omega)) (wp_e1 (C_isDigit hb) ?_))
    by_cases z : isD (D (q + j)) = true
    · have lz := isD_i.mp z
      have ev : I 5 (q + j) = nI (D (q + j)) := hb.2.1 (by omega)
      have wv : I 1 12 * 10 + (I 5 (q + j) - 48) = nI (nv D q (j + 1)) := by
        have s48 : nI (D (q + j)) - 48 = nI (D (q + j) - 48) := nI_sub (b := 48) lz.1
        have e10 : nI (nv D q j) * 10 = nI (nv D q j * 10) := nI_mul _ 10
        rw [h12, ev, s48, e10, nI_add]
        rfl
      rw [if_pos z]
      refine wp_f (by decide) (wp_as (nI_ix (by omega) (by omega)) (wp_let (wp_let ?_)))
      rw [wv, (ui_i (by decide) : e_ui I 1 12 (nI (nv D q (j + 1))) 1 10 = I 1 10), h10, nI_1 (q + j)]
      refine ih (j + 1) n' (e_ui (e_ui I 1 12 (nI (nv D q (j + 1)))) 1 10 (nI (q + j + 1))) (by omega) (by omega) (cT_fr (fun i => (ui_a (by decide)).trans (ui_a (by decide))) hc) ui_s ((ui_i (by decide)).trans ui_s) ((ui_i (by decide)).trans ((ui_i (by decide)).trans h9)) (fun J f1 f2 f3 => ?_)
      have er : rnT D isD (m + 1) (q + j) = rnT D isD m (q + (j + 1)) := by
        show (if isD (D (q + j)) = true then rnT D isD m (q + j + 1) else q + j) = _
        rw [if_pos z]
        rfl
      refine kk J (fr_tr (fr_tr (fr_ui ⟨rfl, Or.inr rfl⟩) (fr_ui ⟨rfl, Or.inl rfl⟩)) f1) ?_ ?_
      · rw [er]
        exact f2
      · rw [er]
        exact f3
    · rw [if_neg z]
      have er : rnT D isD (m + 1) (q + j) = q + j := if_neg z
      refine wp_t rfl (kk I fr_rfl ?_ ?_)
      · rw [er]
        exact h10
      · rw [er, Nat.add_sub_cancel_left]
        exact h12
-- TEXT: a step of the class
theorem c_gt {a N : Nat} (h : a ≤ N) (hN : N < 2 ^ 31) : ¬ nI a > nI N := nI_nlt h hN
theorem C_step {N p : Nat} {D : Nat → Nat} {I : e_I} (hN : N ≤ 500) (hp : p ≤ N) (hc : cT I N D) (h10 : I 1 10 = nI p) (h9 : I 1 9 = nI N) : wp (f_X6_step I) (fun J => fr sS I J ∧ J 1 5 = nI (tq N D p) ∧ J 1 10 = nI (te N D p) ∧ J 1 11 = nI (tk N D p) ∧ (tk N D p = 0 → J 1 12 = nI (r_code (tw N D p))) ∧ (tk N D p = 1 → J 1 12 = nI (tv N D p))) := by
  obtain ⟨q1, q2⟩ := tq_le (D := D) hp
  unfold f_X6_step
  refine C_sp hN (N - p) p e_FU I (by omega) (wp_FU (by omega)) hc h10 h9 (fun J f1 f2 => wp_let (wp_let ?_))
  have f2 : J 1 10 = nI (tq N D p) := f2
  have fS : fr sS I J := fr_mono (fun a i z => ⟨z.1, by have := z.2; omega⟩) f1
  rw [f2]
  have fK : fr sS I (e_ui (e_ui J 1 5 (nI (tq N D p))) 1 12 0) := fr_tr fS (fr_tr (fr_ui ⟨rfl, Or.inl rfl⟩) (fr_ui ⟨rfl, Or.inr (Or.inr (Or.inr rfl))⟩))
  have k5 : (e_ui (e_ui J 1 5 (nI (tq N D p))) 1 12 0) 1 5 = nI (tq N D p) := (ui_i (by decide)).trans ui_s
  have k10 : (e_ui (e_ui J 1 5 (nI (tq N D p))) 1 12 0) 1 10 = nI (tq N D p) := (ui_i (by decide)).trans ((ui_i (by decide)).trans f2)
  have k12 : (e_ui (e_ui J 1 5 (nI (tq N D p))) 1 12 0) 1 12 = nI 0 := ui_s
  have k9 : (e_ui (e_ui J 1 5 (nI (tq N D p))) 1 12 0) 1 9 = nI N := (fK 1 9 (fun z => by have := z.2; omega)).trans h9
  have kc : cT (e_ui (e_ui J 1 5 (nI (tq N D p))) 1 12 0) N D := cT_fr (fun i => fK 5 i (fun z => by cases z.1)) hc
  generalize e_ui (e_ui J 1 5 (nI (tq N D p))) 1 12 0 = K at fK k5 k10 k12 k9 kc ⊢
  rw [k10, k9]
  by_cases hq : tq N D p < N
  · have hb := kc (tq N D p) hq
    have ix : e_ix (nI (tq N D p)) 500 = true := nI_ix (by omega) (by omega)
    refine wp_t (nI_lt hq (by omega)) (wp_as ix ?_)
    rw [nI_clamp (n := tq N D p) (by omega)]
    refine wp_e1 (C_isLetter hb) ?_
    by_cases l : isL (D (tq N D p)) = true
    · have ke : te N D p = rnT D isL (N - tq N D p) (tq N D p) := by
        unfold te
        rw [if_pos hq, if_pos l]
      have kk : tk N D p = if te N D p - tq N D p ≤ 6 then 0 else 4 := by
        unfold tk
        rw [if_pos hq, if_pos l]
      have le := (te_le (D := D) hp).1
      have le2 := (te_le (D := D) hp).2
      rw [if_pos l]
      refine wp_f (by decide) ?_
      refine wp_c1 (R := fun J => fr sS K J ∧ J 1 5 = nI (tq N D p) ∧ J 1 10 = nI (te N D p) ∧ J 1 11 = nI (tk N D p) ∧ J 1 12 = nI (r_code (tw N D p))) ?_ (fun E hE => ?_)
      · unfold f_X6_stepOverLetters
        refine C_lets (q := tq N D p) hN (N - tq N D p) 0 e_FU K (by omega) (wp_FU (by omega)) kc (fun i hi => by omega) k10 k12 k9 (fun E g1 g2 g3 => ?_)
        rw [Nat.add_zero, ← ke] at g2 g3
        have gS : fr sS K E := fr_mono (fun a i z => ⟨z.1, by have := z.2; omega⟩) g1
        have g5 : E 1 5 = nI (tq N D p) := (g1 1 5 (fun z => by have := z.2; omega)).trans k5
        have sub : E 1 10 - E 1 5 = nI (te N D p - tq N D p) := by
          rw [g2, g5, nI_sub le]
        rw [sub]
        unfold f_X6_stepOverLetters_79
        by_cases w : te N D p - tq N D p ≤ 6
        · refine wp_f (c_gt (N := 6) w (by decide)) (wp_let (wp_some ⟨fr_tr gS (fr_ui ⟨rfl, Or.inr (Or.inr (Or.inl rfl))⟩), (ui_i (by decide)).trans g5, (ui_i (by decide)).trans g2, ?_, (ui_i (by decide)).trans g3⟩))
          rw [kk, if_pos w]
          exact ui_s
        · refine wp_t (nI_lt (a := 6) (by omega) (by omega)) (wp_let (wp_some ⟨fr_tr gS (fr_ui ⟨rfl, Or.inr (Or.inr (Or.inl rfl))⟩), (ui_i (by decide)).trans g5, (ui_i (by decide)).trans g2, ?_, (ui_i (by decide)).trans g3⟩))
          rw [kk, if_neg w]
          exact ui_s
      · unfold f_X6_step_147
        obtain ⟨x1, x2, x3, x4, x5⟩ := hE
        refine wp_some ⟨fr_tr fK x1, x2, x3, x4, fun _ => x5, fun y => ?_⟩
        rw [kk] at y
        split at y <;> omega
    · have nl : (if isL (D (tq N D p)) = true then (1 : Int32) else 0) = 0 := if_neg l
      rw [nl]
      refine wp_t rfl (wp_as ix (wp_e1 (C_isDigit hb) ?_))
      by_cases d : isD (D (tq N D p)) = true
      · have ke : te N D p = rnT D isD (N - tq N D p) (tq N D p) := by
          unfold te
          rw [if_pos hq, if_neg l, if_pos d]
        have kk : tk N D p = if te N D p - tq N D p ≤ 2 then 1 else 4 := by
          unfold tk
          rw [if_pos hq, if_neg l, if_pos d]
        have le := (te_le (D := D) hp).1
        have le2 := (te_le (D := D) hp).2
        rw [if_pos d]
        refine wp_f (by decide) ?_
        refine wp_c1 (R := fun J => fr sS K J ∧ J 1 5 = nI (tq N D p) ∧ J 1 10 = nI (te N D p) ∧ J 1 11 = nI (tk N D p) ∧ J 1 12 = nI (tv N D p)) ?_ (fun E hE => ?_)
        · unfold f_X6_stepOverDigits
          refine C_digs (q := tq N D p) hN (N - tq N D p) 0 e_FU K (by omega) (wp_FU (by omega)) kc k10 k12 k9 (fun E g1 g2 g3 => ?_)
          rw [Nat.add_zero, ← ke] at g2 g3
          have gS : fr sS K E := fr_mono (fun a i z => ⟨z.1, by have := z.2; omega⟩) g1
          have g5 : E 1 5 = nI (tq N D p) := (g1 1 5 (fun z => by have := z.2; omega)).trans k5
          have sub : E 1 10 - E 1 5 = nI (te N D p - tq N D p) := by
            rw [g2, g5, nI_sub le]
          rw [sub]
          unfold f_X6_stepOverDigits_82
          by_cases w : te N D p - tq N D p ≤ 2
          · refine wp_f (c_gt (N := 2) w (by decide)) (wp_let (wp_some ⟨fr_tr gS (fr_ui ⟨rfl, Or.inr (Or.inr (Or.inl rfl))⟩), (ui_i (by decide)).trans g5, (ui_i (by decide)).trans g2, ?_, (ui_i (by decide)).trans g3⟩))
            rw [kk, if_pos w]
            exact ui_s
          · refine wp_t (nI_lt (a := 2) (by omega) (by omega)) (wp_let (wp_some ⟨fr_tr gS (fr_ui ⟨rfl, Or.inr (Or.inr (Or.inl rfl))⟩), (ui_i (by decide)).trans g5, (ui_i (by decide)).trans g2, ?_, (ui_i (by decide)).trans g3⟩))
            rw [kk, if_neg w]
            exact ui_s
        · unfold f_X6_step_147
          obtain ⟨x1, x2, x3, x4, x5⟩ := hE
          refine wp_some ⟨fr_tr fK x1, x2, x3, x4, fun y => ?_, fun _ => x5⟩
          rw [kk] at y
          split at y <;> omega
      · have ke : te N D p = tq N D p + 1 := by
          unfold te
          rw [if_pos hq, if_neg l, if_neg d]
        have kk : tk N D p = if D (tq N D p) = 59 then 2 else 4 := by
          unfold tk
          rw [if_pos hq, if_neg l, if_neg d]
        have nd : (if isD (D (tq N D p)) = true then (1 : Int32) else 0) = 0 := if_neg d
        have e59 : K 5 (tq N D p) = 59 ↔ D (tq N D p) = 59 := byt_eq (k := 59) hb (by decide)
        rw [nd]
        refine wp_t rfl (wp_as ix ?_)
        unfold f_X6_step_134 f_X6_step_147
        have fin : ∀ s0 : Int32, s0 = nI (tk N D p) → wp (e_let (e_ui K 1 11 s0) (fun (I_1 : e_I) => e_let (e_ui I_1 1 10 ((I_1 1 10) + 1)) (fun (I_2 : e_I) => some I_2))) (fun J => fr sS I J ∧ J 1 5 = nI (tq N D p) ∧ J 1 10 = nI (te N D p) ∧ J 1 11 = nI (tk N D p) ∧ (tk N D p = 0 → J 1 12 = nI (r_code (tw N D p))) ∧ (tk N D p = 1 → J 1 12 = nI (tv N D p))) := fun s0 hs => by
          have u10 : e_ui K 1 11 s0 1 10 = nI (tq N D p) := (ui_i (by decide)).trans k10
          refine wp_let (wp_let ?_)
          rw [u10, nI_1, ← ke]
          refine wp_some ⟨fr_tr fK (fr_tr (fr_ui ⟨rfl, Or.inr (Or.inr (Or.inl rfl))⟩) (fr_ui ⟨rfl, Or.inr (Or.inl rfl)⟩)), (ui_i (by decide)).trans ((ui_i (by decide)).trans k5), ui_s, (ui_i (by decide)).trans (ui_s.trans hs), fun y => ?_, fun y => ?_⟩
          · rw [kk] at y
            split at y <;> omega
          · rw [kk] at y
            split at y <;> omega
        refine wp_c (fun z => ?_) (fun z => ?_)
        · refine fin 4 ?_
          rw [kk, if_neg (fun y => z (e59.mpr y))]
          rfl
        · refine fin 2 ?_
          have z : K 5 (tq N D p) = 59 := by
            by_cases y : K 5 (tq N D p) = 59
            · exact y
            · exact absurd y z
          rw [kk, if_pos (e59.mp z)]
          rfl
  · have qN : tq N D p = N := by omega
    have ke : te N D p = tq N D p := by
      unfold te
      rw [if_neg hq]
    have kk : tk N D p = 3 := by
      unfold tk
      rw [if_neg hq]
    refine wp_f (nI_nlt (by omega) (by omega)) (wp_let ?_)
    unfold f_X6_step_147
    refine wp_some ⟨fr_tr fK (fr_ui ⟨rfl, Or.inr (Or.inr (Or.inl rfl))⟩), (ui_i (by decide)).trans k5, ?_, ?_, fun y => ?_, fun y => ?_⟩
    · rw [ke]
      exact (ui_i (by decide)).trans k10
    · rw [kk]
      exact ui_s
    · omega
    · omega
-- TEXT: the model's way on to the next token
def mT (J : e_I) (N : Nat) (D : Nat → Nat) : Prop := ∀ i, i < N → J 84 i = nI (D i) ∧ D i < 256
def mk (k : Nat) : Nat := if k = 0 then 2 else if k = 1 then 3 else if k = 2 then 59 else if k = 3 then 0 else 1
def gS8 (a i : Nat) : Prop := a = 83 ∧ (12 ≤ i ∧ i ≤ 15)
def gP (a i : Nat) : Prop := a = 83 ∧ (i = 13 ∨ i = 15)
theorem mT_fr {I J : e_I} {N : Nat} {D : Nat → Nat} (h : ∀ i, J 84 i = I 84 i) (hc : mT I N D) : mT J N D := fun i hi => by
  rw [h]
  exact hc i hi
theorem M_see {J : e_I} {N p : Nat} {D : Nat → Nat} (hN : N ≤ 500) (hp : p ≤ N) (hm : mT J N D) (h11 : J 83 11 = nI N) : f_X8_see (nI p) J = some (if p < N then nI (D p) else -1) := by
  unfold f_X8_see f_X8_see_18 e_as
  rw [h11]
  by_cases q : p < N
  · rw [if_neg (c_ge q (by omega)), if_pos (nI_ix (by omega) (by omega)), nI_clamp (n := p) (by omega), (hm p q).1, if_pos q]
  · rw [if_pos (nI_le (by omega) (by omega)), if_neg q]
theorem M_inL {d : Nat} (h : d < 256) : f_X8_in (nI d) 97 122 = some (if isL d = true then 1 else 0) := by
  rw [r_in]
  by_cases q : isL d = true
  · have := isL_i.mp q
    rw [if_pos q, if_pos ⟨nI_le (a := 97) (by omega) (by omega), nI_le (b := 122) (by omega) (by decide)⟩]
  · rw [if_neg q, if_neg (fun z => q (isL_i.mpr ⟨(nI_leI (a := 97) (by decide) (by omega)).mp z.1, (nI_leI (b := 122) (by omega) (by decide)).mp z.2⟩))]
theorem M_inD {d : Nat} (h : d < 256) : f_X8_in (nI d) 48 57 = some (if isD d = true then 1 else 0) := by
  rw [r_in]
  by_cases q : isD d = true
  · have := isD_i.mp q
    rw [if_pos q, if_pos ⟨nI_le (a := 48) (by omega) (by omega), nI_le (b := 57) (by omega) (by decide)⟩]
  · rw [if_neg q, if_neg (fun z => q (isD_i.mpr ⟨(nI_leI (a := 48) (by decide) (by omega)).mp z.1, (nI_leI (b := 57) (by omega) (by decide)).mp z.2⟩))]
theorem M_in1 {a b : Int32} (h : ¬ a ≤ -1) : f_X8_in (-1) a b = some 0 := by
  rw [r_in, if_neg (fun z => h z.1)]
theorem M_sp {N : Nat} {D : Nat → Nat} (hN : N ≤ 500) {k26 : e_I → Option e_I} {Q : e_I → Prop} : ∀ m p n J, p + m = N → m < n → mT J N D → J 83 13 = nI p → J 83 11 = nI N → (∀ K, fr gP J K → K 83 13 = nI (rnT D isS m p) → wp (k26 K) Q) → wp (f_X8_goesOn_0 k26 n J) Q := by
  intro m
  induction m with
  | zero =>
    intro p n J h0 hm hc h13 h11 kk
    obtain ⟨n', rfl⟩ : ∃ k, n = k + 1 := ⟨n - 1, by omega⟩
    have h0 : p = N := h0
    rw [f_X8_goesOn_0, h13, M_see hN (by omega) hc h11, if_neg (by omega)]
    exact wp_e1 rfl (wp_t (by decide) (kk J fr_rfl h13))
  | succ m ih =>
    intro p n J h0 hm hc h13 h11 kk
    obtain ⟨n', rfl⟩ : ∃ k, n = k + 1 := ⟨n - 1, by omega⟩
    have db := (hc p (by omega)).2
    have e32 : nI (D p) = 32 ↔ D p = 32 := nI_eq (b := 32) (by omega) (by decide)
    rw [f_X8_goesOn_0, h13, M_see hN (by omega) hc h11, if_pos (by omega)]
    refine wp_e1 rfl (wp_c (fun z => ?_) (fun z => ?_))
    · refine kk J fr_rfl ?_
      rw [h13]
      show nI p = nI (if isS (D p) = true then rnT D isS m (p + 1) else p)
      rw [if_neg (fun y => z (e32.mpr (isS_i.mp y)))]
    · have z : nI (D p) = 32 := by
        by_cases y : nI (D p) = 32
        · exact y
        · exact absurd y z
      refine wp_let ?_
      rw [nI_1 p]
      refine ih (p + 1) n' (e_ui J 83 13 (nI (p + 1))) (by omega) (by omega) (mT_fr (fun i => ui_a (by decide)) hc) ui_s ((ui_i (by decide)).trans h11) (fun K f1 f2 => kk K (fr_tr (fr_ui ⟨rfl, Or.inl rfl⟩) f1) ?_)
      rw [f2]
      show _ = nI (if isS (D p) = true then rnT D isS m (p + 1) else p)
      rw [if_pos (isS_i.mpr (e32.mp z))]
theorem M_lets {N : Nat} {D : Nat → Nat} (hN : N ≤ 500) {k96 : e_I → Option e_I} {Q : e_I → Prop} : ∀ m p n J, p + m = N → m < n → mT J N D → J 83 13 = nI p → J 83 11 = nI N → (∀ K, fr gP J K → K 83 13 = nI (rnT D isL m p) → wp (k96 K) Q) → wp (f_X8_goesOn_65 k96 n J) Q := by
  intro m
  induction m with
  | zero =>
    intro p n J h0 hm hc h13 h11 kk
    obtain ⟨n', rfl⟩ : ∃ k, n = k + 1 := ⟨n - 1, by omega⟩
    have h0 : p = N := h0
    rw [f_X8_goesOn_65, h13, M_see hN (by omega) hc h11, if_neg (by omega)]
    exact wp_e1 rfl (wp_e1 (M_in1 (by decide)) (wp_t rfl (kk J fr_rfl h13)))
  | succ m ih =>
    intro p n J h0 hm hc h13 h11 kk
    obtain ⟨n', rfl⟩ : ∃ k, n = k + 1 := ⟨n - 1, by omega⟩
    have db := (hc p (by omega)).2
    rw [f_X8_goesOn_65, h13, M_see hN (by omega) hc h11, if_pos (by omega)]
    refine wp_e1 rfl (wp_e1 (M_inL db) ?_)
    by_cases z : isL (D p) = true
    · rw [if_pos z]
      refine wp_f (by decide) (wp_let ?_)
      rw [nI_1 p]
      refine ih (p + 1) n' (e_ui J 83 13 (nI (p + 1))) (by omega) (by omega) (mT_fr (fun i => ui_a (by decide)) hc) ui_s ((ui_i (by decide)).trans h11) (fun K f1 f2 => kk K (fr_tr (fr_ui ⟨rfl, Or.inl rfl⟩) f1) ?_)
      rw [f2]
      show _ = nI (if isL (D p) = true then rnT D isL m (p + 1) else p)
      rw [if_pos z]
    · rw [if_neg z]
      refine wp_t rfl (kk J fr_rfl ?_)
      rw [h13]
      show nI p = nI (if isL (D p) = true then rnT D isL m (p + 1) else p)
      rw [if_neg z]
theorem M_digs {N : Nat} {D : Nat → Nat} (hN : N ≤ 500) {k210 : e_I → Option e_I} {Q : e_I → Prop} {q : Nat} : ∀ m j n J, q + j + m = N → m < n → mT J N D → J 83 12 = nI q → J 83 13 = nI (q + j) → J 83 15 = nI (nv D q (min j 2)) → J 83 11 = nI N → (∀ K, fr gP J K → K 83 13 = nI (rnT D isD m (q + j)) → K 83 15 = nI (nv D q (min (rnT D isD m (q + j) - q) 2)) → wp (k210 K) Q) → wp (f_X8_goesOn_136 k210 n J) Q := by
  intro m
  induction m with
  | zero =>
    intro j n J h0 hm hc h12 h13 h15 h11 kk
    obtain ⟨n', rfl⟩ : ∃ k, n = k + 1 := ⟨n - 1, by omega⟩
    have h0 : q + j = N := h0
    rw [f_X8_goesOn_136, h13, M_see hN (by omega) hc h11, if_neg (by omega)]
    refine wp_e1 rfl (wp_e1 (M_in1 (by decide)) (wp_t rfl (kk J fr_rfl h13 ?_)))
    show J 83 15 = nI (nv D q (min (q + j - q) 2))
    rw [Nat.add_sub_cancel_left]
    exact h15
  | succ m ih =>
    intro j n J h0 hm hc h12 h13 h15 h11 kk
    obtain ⟨n', rfl⟩ : ∃ k, n = k + 1 := ⟨n - 1, by omega⟩
    have db := (hc (q + j) (by omega)).2
    have see : f_X8_see (nI (q + j)) J = some (nI (D (q + j))) := by
      rw [M_see hN (by omega) hc h11, if_pos (by omega)]
    rw [f_X8_goesOn_136, h13, see]
    refine wp_e1 rfl (wp_e1 (M_inD db) ?_)
    by_cases z : isD (D (q + j)) = true
    · have dz := isD_i.mp z
      rw [if_pos z, h12, nI_sub (by omega), Nat.add_sub_cancel_left]
      have er : rnT D isD (m + 1) (q + j) = rnT D isD m (q + (j + 1)) := by
        show (if isD (D (q + j)) = true then rnT D isD m (q + j + 1) else q + j) = _
        rw [if_pos z]
        rfl
      have go : ∀ w : Int32, w = nI (nv D q (min (j + 1) 2)) → wp (f_X8_goesOn_194 (fun I => f_X8_goesOn_136 k210 n' I) k210 w J) Q := fun w hw => by
        unfold f_X8_goesOn_194
        refine wp_let (wp_let ?_)
        rw [(ui_i (by decide) : e_ui J 83 15 w 83 13 = J 83 13), h13, nI_1 (q + j)]
        refine ih (j + 1) n' (e_ui (e_ui J 83 15 w) 83 13 (nI (q + j + 1))) (by omega) (by omega) (mT_fr (fun i => (ui_a (by decide)).trans (ui_a (by decide))) hc) ((ui_i (by decide)).trans ((ui_i (by decide)).trans h12)) ui_s ((ui_i (by decide)).trans (ui_s.trans hw)) ((ui_i (by decide)).trans ((ui_i (by decide)).trans h11)) (fun K f1 f2 f3 => ?_)
        refine kk K (fr_tr (fr_tr (fr_ui ⟨rfl, Or.inr rfl⟩) (fr_ui ⟨rfl, Or.inl rfl⟩)) f1) ?_ ?_
        · rw [er]
          exact f2
        · rw [er]
          exact f3
      refine wp_f (by decide) ?_
      by_cases w : 2 ≤ j
      · refine wp_t (nI_le (a := 2) w (by omega)) (go _ ?_)
        rw [h15, show min j 2 = 2 by omega, show min (j + 1) 2 = 2 by omega]
      · refine wp_f (c_ge (N := 2) (by omega) (by decide)) (wp_e1 rfl (go _ ?_))
        have m1 : min j 2 = j := by omega
        have m2 : min (j + 1) 2 = j + 1 := by omega
        have e10 : (10 : Int32) * nI (nv D q j) = nI (10 * nv D q j) := nI_mul 10 _
        have s48 : nI (10 * nv D q j + D (q + j)) - 48 = nI (10 * nv D q j + D (q + j) - 48) := nI_sub (b := 48) (by omega)
        rw [h15, m1, m2, e10, nI_add, s48]
        show _ = nI (nv D q j * 10 + (D (q + j) - 48))
        congr 1
        omega
    · rw [if_neg z]
      have er : rnT D isD (m + 1) (q + j) = q + j := if_neg z
      refine wp_t rfl (kk J fr_rfl ?_ ?_)
      · rw [er]
        exact h13
      · rw [er, Nat.add_sub_cancel_left]
        exact h15
theorem M_goesOn {N p : Nat} {D : Nat → Nat} {J : e_I} (hN : N ≤ 500) (hp : p ≤ N) (hm : mT J N D) (h13 : J 83 13 = nI p) (h11 : J 83 11 = nI N) : wp (f_X8_goesOn J) (fun K => fr gS8 J K ∧ K 83 12 = nI (tq N D p) ∧ K 83 13 = nI (te N D p) ∧ K 83 14 = nI (mk (tk N D p)) ∧ (tk N D p = 1 → K 83 15 = nI (tv N D p))) := by
  obtain ⟨q1, q2⟩ := tq_le (D := D) hp
  unfold f_X8_goesOn
  refine M_sp hN (N - p) p e_FU J (by omega) (wp_FU (by omega)) hm h13 h11 (fun K f1 f2 => wp_let ?_)
  have f2 : K 83 13 = nI (tq N D p) := f2
  rw [f2]
  have fK : fr gS8 J (e_ui K 83 12 (nI (tq N D p))) := fr_tr (fr_mono (fun a i z => ⟨z.1, by have := z.2; omega⟩) f1) (fr_ui ⟨rfl, by decide, by decide⟩)
  have k12 : (e_ui K 83 12 (nI (tq N D p))) 83 12 = nI (tq N D p) := ui_s
  have k13 : (e_ui K 83 12 (nI (tq N D p))) 83 13 = nI (tq N D p) := (ui_i (by decide)).trans f2
  have k11 : (e_ui K 83 12 (nI (tq N D p))) 83 11 = nI N := (fK 83 11 (fun z => by have := z.2; omega)).trans h11
  have km : mT (e_ui K 83 12 (nI (tq N D p))) N D := mT_fr (fun i => fK 84 i (fun z => by cases z.1)) hm
  generalize e_ui K 83 12 (nI (tq N D p)) = E at fK k12 k13 k11 km ⊢
  rw [k13, M_see hN q2 km k11]
  by_cases hq : tq N D p < N
  · have db := (km (tq N D p) hq).2
    rw [if_pos hq]
    refine wp_e1 rfl (wp_t (nI_m1 (by omega)) (wp_e1 (M_inL db) ?_))
    by_cases l : isL (D (tq N D p)) = true
    · have ke : te N D p = rnT D isL (N - tq N D p) (tq N D p) := by
        unfold te
        rw [if_pos hq, if_pos l]
      have kk : tk N D p = if te N D p - tq N D p ≤ 6 then 0 else 4 := by
        unfold tk
        rw [if_pos hq, if_pos l]
      have le := (te_le (D := D) hp).1
      have le2 := (te_le (D := D) hp).2
      rw [if_pos l]
      refine wp_f (by decide) (M_lets hN (N - tq N D p) (tq N D p) e_FU E (by omega) (wp_FU (by omega)) km k13 k11 (fun G g1 g2 => ?_))
      rw [← ke] at g2
      have gS : fr gS8 J G := fr_tr fK (fr_mono (fun a i z => ⟨z.1, by have := z.2; omega⟩) g1)
      have g12 : G 83 12 = nI (tq N D p) := (g1 83 12 (fun z => by have := z.2; omega)).trans k12
      rw [g2, g12, nI_sub le]
      unfold f_X8_goesOn_116
      by_cases w : te N D p - tq N D p ≤ 6
      · refine wp_t (nI_le (b := 6) w (by decide)) (wp_let (wp_some ⟨fr_tr gS (fr_ui ⟨rfl, by decide, by decide⟩), (ui_i (by decide)).trans g12, (ui_i (by decide)).trans g2, ?_, fun y => ?_⟩))
        · rw [kk, if_pos w]
          exact ui_s
        · rw [kk, if_pos w] at y
          omega
      · refine wp_f (nI_ge (a := 6) (by omega) (by omega)) (wp_let (wp_some ⟨fr_tr gS (fr_ui ⟨rfl, by decide, by decide⟩), (ui_i (by decide)).trans g12, (ui_i (by decide)).trans g2, ?_, fun y => ?_⟩))
        · rw [kk, if_neg w]
          exact ui_s
        · rw [kk, if_neg w] at y
          omega
    · have nl : (if isL (D (tq N D p)) = true then (1 : Int32) else 0) = 0 := if_neg l
      rw [nl]
      refine wp_t rfl (wp_e1 (M_inD db) ?_)
      by_cases d : isD (D (tq N D p)) = true
      · have ke : te N D p = rnT D isD (N - tq N D p) (tq N D p) := by
          unfold te
          rw [if_pos hq, if_neg l, if_pos d]
        have kk : tk N D p = if te N D p - tq N D p ≤ 2 then 1 else 4 := by
          unfold tk
          rw [if_pos hq, if_neg l, if_pos d]
        have le := (te_le (D := D) hp).1
        have le2 := (te_le (D := D) hp).2
        rw [if_pos d]
        refine wp_f (by decide) (wp_let ?_)
        have fE : fr gS8 J (e_ui E 83 15 0) := fr_tr fK (fr_ui ⟨rfl, by decide, by decide⟩)
        refine M_digs (q := tq N D p) hN (N - tq N D p) 0 e_FU (e_ui E 83 15 0) (by omega) (wp_FU (by omega)) (mT_fr (fun i => ui_a (by decide)) km) ((ui_i (by decide)).trans k12) ((ui_i (by decide)).trans k13) ui_s ((ui_i (by decide)).trans k11) (fun G g1 g2 g3 => ?_)
        rw [Nat.add_zero, ← ke] at g2 g3
        have gS : fr gS8 J G := fr_tr fE (fr_mono (fun a i z => ⟨z.1, by have := z.2; omega⟩) g1)
        have g12 : G 83 12 = nI (tq N D p) := (g1 83 12 (fun z => by have := z.2; omega)).trans ((ui_i (by decide)).trans k12)
        rw [g2, g12, nI_sub le]
        unfold f_X8_goesOn_229
        by_cases w : te N D p - tq N D p ≤ 2
        · refine wp_t (nI_le (b := 2) w (by decide)) (wp_let (wp_some ⟨fr_tr gS (fr_ui ⟨rfl, by decide, by decide⟩), (ui_i (by decide)).trans g12, (ui_i (by decide)).trans g2, ?_, fun y => ?_⟩))
          · rw [kk, if_pos w]
            exact ui_s
          · rw [show min (te N D p - tq N D p) 2 = te N D p - tq N D p by omega] at g3
            exact (ui_i (by decide)).trans g3
        · refine wp_f (nI_ge (a := 2) (by omega) (by omega)) (wp_let (wp_some ⟨fr_tr gS (fr_ui ⟨rfl, by decide, by decide⟩), (ui_i (by decide)).trans g12, (ui_i (by decide)).trans g2, ?_, fun y => ?_⟩))
          · rw [kk, if_neg w]
            exact ui_s
          · rw [kk, if_neg w] at y
            omega
      · have ke : te N D p = tq N D p + 1 := by
          unfold te
          rw [if_pos hq, if_neg l, if_neg d]
        have kk : tk N D p = if D (tq N D p) = 59 then 2 else 4 := by
          unfold tk
          rw [if_pos hq, if_neg l, if_neg d]
        have nd : (if isD (D (tq N D p)) = true then (1 : Int32) else 0) = 0 := if_neg d
        have e59 : nI (D (tq N D p)) = 59 ↔ D (tq N D p) = 59 := nI_eq (b := 59) (by omega) (by decide)
        rw [nd]
        refine wp_t rfl (wp_let ?_)
        rw [nI_1 (tq N D p), ← ke]
        have fE : fr gS8 J (e_ui E 83 13 (nI (te N D p))) := fr_tr fK (fr_ui ⟨rfl, by decide, by decide⟩)
        unfold f_X8_goesOn_255
        have fin : ∀ s0 : Int32, s0 = nI (mk (tk N D p)) → wp (e_let (e_ui (e_ui E 83 13 (nI (te N D p))) 83 14 s0) (fun (I_1 : e_I) => some I_1)) (fun K => fr gS8 J K ∧ K 83 12 = nI (tq N D p) ∧ K 83 13 = nI (te N D p) ∧ K 83 14 = nI (mk (tk N D p)) ∧ (tk N D p = 1 → K 83 15 = nI (tv N D p))) := fun s0 hs => by
          refine wp_let (wp_some ⟨fr_tr fE (fr_ui ⟨rfl, by decide, by decide⟩), (ui_i (by decide)).trans ((ui_i (by decide)).trans k12), (ui_i (by decide)).trans ui_s, ui_s.trans hs, fun y => ?_⟩)
          rw [kk] at y
          split at y <;> omega
        refine wp_c (fun z => ?_) (fun z => ?_)
        · refine fin 1 ?_
          rw [kk, if_neg (fun y => z (e59.mpr y))]
          rfl
        · have z : nI (D (tq N D p)) = 59 := by
            by_cases y : nI (D (tq N D p)) = 59
            · exact y
            · exact absurd y z
          refine fin _ ?_
          rw [z, kk, if_pos (e59.mp z)]
          rfl
  · have ke : te N D p = tq N D p := by
      unfold te
      rw [if_neg hq]
    have kk : tk N D p = 3 := by
      unfold tk
      rw [if_neg hq]
    rw [if_neg hq]
    refine wp_e1 rfl (wp_f (fun n => n rfl) (wp_let (wp_some ⟨fr_tr fK (fr_ui ⟨rfl, by decide, by decide⟩), (ui_i (by decide)).trans k12, ?_, ?_, fun y => by omega⟩)))
    · rw [ke]
      exact (ui_i (by decide)).trans k13
    · rw [kk]
      exact ui_s
