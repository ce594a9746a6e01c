-- TEXT: words and their codes
theorem code_app {w : List Nat} {x : Nat} : r_code (w ++ [x]) = r_code w * 27 + x := by
  unfold r_code
  rw [List.foldl_append]
  rfl
theorem code_rinj : ∀ r t : List Nat, (∀ x ∈ r, 1 ≤ x ∧ x ≤ 26) → (∀ x ∈ t, 1 ≤ x ∧ x ≤ 26) → r_code r.reverse = r_code t.reverse → r = t
  | [], [], _, _, _ => rfl
  | [], y :: ys, _, h2, e => by
    rw [List.reverse_cons, code_app] at e
    have := h2 y (List.mem_cons_self ..)
    have e0 : r_code ([] : List Nat).reverse = 0 := rfl
    omega
  | x :: xs, [], h1, _, e => by
    rw [List.reverse_cons, code_app] at e
    have := h1 x (List.mem_cons_self ..)
    have e0 : r_code ([] : List Nat).reverse = 0 := rfl
    omega
  | x :: xs, y :: ys, h1, h2, e => by
    rw [List.reverse_cons, List.reverse_cons, code_app, code_app] at e
    have a := h1 x (List.mem_cons_self ..)
    have b := h2 y (List.mem_cons_self ..)
    have e1' : x = y := by omega
    have e2' : r_code xs.reverse = r_code ys.reverse := by omega
    rw [e1', code_rinj xs ys (fun z hz => h1 z (List.mem_cons_of_mem _ hz)) (fun z hz => h2 z (List.mem_cons_of_mem _ hz)) e2']
theorem code_rlt : ∀ r : List Nat, (∀ x ∈ r, 1 ≤ x ∧ x ≤ 26) → r_code r.reverse < 27 ^ r.length
  | [], _ => by decide
  | x :: xs, h => by
    rw [List.reverse_cons, code_app, List.length_cons, Nat.pow_succ]
    have a := h x (List.mem_cons_self ..)
    have b := code_rlt xs (fun z hz => h z (List.mem_cons_of_mem _ hz))
    omega
theorem code_inj {w v : List Nat} (h1 : ∀ x ∈ w, 1 ≤ x ∧ x ≤ 26) (h2 : ∀ x ∈ v, 1 ≤ x ∧ x ≤ 26) (e : r_code w = r_code v) : w = v := by
  have k := code_rinj w.reverse v.reverse (fun x hx => h1 x (List.mem_reverse.mp hx)) (fun x hx => h2 x (List.mem_reverse.mp hx)) (by rw [List.reverse_reverse, List.reverse_reverse]; exact e)
  have k2 := congrArg List.reverse k
  rwa [List.reverse_reverse, List.reverse_reverse] at k2
theorem code_lt {w : List Nat} (h : r_word w) : r_code w < 2 ^ 30 := by
  have k := code_rlt w.reverse (fun x hx => h.2.2 x (List.mem_reverse.mp hx))
  rw [List.reverse_reverse, List.length_reverse] at k
  have p : (27 : Nat) ^ w.length ≤ 27 ^ 6 := Nat.pow_le_pow_right (by decide) h.2.1
  have e : (27 : Nat) ^ 6 = 387420489 := by decide
  omega
theorem code_eq {w v : List Nat} (h1 : r_word w) (h2 : r_word v) : nI (r_code w) = nI (r_code v) ↔ w = v := by
  have a := code_lt h1
  have b := code_lt h2
  rw [nI_eq (by omega) (by omega)]
  exact ⟨fun e => code_inj h1.2.2 h2.2.2 e, fun e => by rw [e]⟩
theorem gd_app1 : ∀ (l m : List Nat) (k : Nat), k < l.length → (l ++ m).getD k 0 = l.getD k 0
  | [], _, k, h => by cases h
  | x :: xs, m, 0, _ => rfl
  | x :: xs, m, k + 1, h => gd_app1 xs m k (Nat.lt_of_succ_lt_succ h)
theorem gd_app2 : ∀ (l : List Nat) (x : Nat), (l ++ [x]).getD l.length 0 = x
  | [], x => rfl
  | y :: ys, x => gd_app2 ys x
theorem gd_mem : ∀ (l : List Nat) (k : Nat), k < l.length → l.getD k 0 ∈ l
  | [], k, h => by cases h
  | x :: xs, 0, _ => List.mem_cons_self ..
  | x :: xs, k + 1, h => List.mem_cons_of_mem _ (gd_mem xs k (Nat.lt_of_succ_lt_succ h))
theorem wl_len {D : Nat → Nat} {q : Nat} : ∀ n, (wl D q n).length = n
  | 0 => rfl
  | n + 1 => by
    show (wl D q n ++ [D (q + n) - 96]).length = n + 1
    rw [List.length_append, wl_len n]
    rfl
theorem wl_get {D : Nat → Nat} {q : Nat} : ∀ n k, k < n → (wl D q n).getD k 0 = D (q + k) - 96
  | 0, k, h => by omega
  | n + 1, k, h => by
    show (wl D q n ++ [D (q + n) - 96]).getD k 0 = D (q + k) - 96
    by_cases z : k = n
    · subst z
      have e := gd_app2 (wl D q k) (D (q + k) - 96)
      rwa [wl_len] at e
    · rw [gd_app1 _ _ _ (by rw [wl_len]; omega)]
      exact wl_get n k (by omega)
theorem wl_mem {D : Nat → Nat} {q : Nat} : ∀ n, (∀ k, k < n → isL (D (q + k)) = true) → ∀ x ∈ wl D q n, 1 ≤ x ∧ x ≤ 26
  | 0, _, x, hx => by cases hx
  | n + 1, h, x, hx => by
    have hx : x ∈ wl D q n ++ [D (q + n) - 96] := hx
    rcases List.mem_append.mp hx with z | z
    · exact wl_mem n (fun k hk => h k (by omega)) x z
    · have z := List.mem_singleton.mp z
      have := isL_i.mp (h n (by omega))
      omega
theorem list_eq : ∀ l l' : List Nat, l.length = l'.length → (∀ k, k < l.length → l.getD k 0 = l'.getD k 0) → l = l'
  | [], [], _, _ => rfl
  | [], y :: ys, h, _ => by cases h
  | x :: xs, [], h, _ => by cases h
  | x :: xs, y :: ys, h, k => by
    have e0 : x = y := k 0 (Nat.succ_pos _)
    have e1' := list_eq xs ys (Nat.succ.inj h) (fun j hj => k (j + 1) (Nat.succ_lt_succ hj))
    rw [e0, e1']
-- a word of the text
theorem tok_word {N p : Nat} {D : Nat → Nat} (h0 : tk N D p = 0) : tq N D p < N ∧ tq N D p < te N D p ∧ te N D p - tq N D p ≤ 6 ∧ (∀ k, k < te N D p - tq N D p → isL (D (tq N D p + k)) = true) ∧ r_word (tw N D p) := by
  unfold tk at h0
  by_cases hq : tq N D p < N
  · rw [if_pos hq] at h0
    by_cases l : isL (D (tq N D p)) = true
    · rw [if_pos l] at h0
      have ke : te N D p = rnT D isL (N - tq N D p) (tq N D p) := by
        unfold te
        rw [if_pos hq, if_pos l]
      have l6 : te N D p - tq N D p ≤ 6 := by
        by_cases w : te N D p - tq N D p ≤ 6
        · exact w
        · rw [if_neg w] at h0
          omega
      have gt : tq N D p < te N D p := by
        rw [ke]
        exact rnT_lt (by omega) l
      have all : ∀ k, k < te N D p - tq N D p → isL (D (tq N D p + k)) = true := fun k hk => rnT_in (N - tq N D p) (tq N D p) _ (by omega) (by rw [← ke]; omega)
      refine ⟨hq, gt, l6, all, ?_, ?_, wl_mem _ all⟩
      · unfold tw
        rw [wl_len]
        omega
      · unfold tw
        rw [wl_len]
        exact l6
    · rw [if_neg l] at h0
      by_cases d : isD (D (tq N D p)) = true
      · rw [if_pos d] at h0
        split at h0 <;> omega
      · rw [if_neg d] at h0
        split at h0 <;> omega
  · rw [if_neg hq] at h0
    omega
-- the words that the rules know
def kw (i : Nat) : List Nat := [[19, 9, 14, 7, 12, 5], [4, 15, 21, 2, 12, 5], [6, 12, 25], [19, 20, 5, 1, 12], [20, 9, 18, 5], [2, 1, 20, 20, 5, 18]].getD i []
theorem kw_word : ∀ i, i < 6 → r_word (kw i) := by
  have h : ∀ i, i < 6 → 1 ≤ (kw i).length ∧ (kw i).length ≤ 6 ∧ ∀ x ∈ kw i, 1 ≤ x ∧ x ≤ 26 := by decide +kernel
  exact h
def kx (w : List Nat) : Nat → Nat → Int32
  | 0, _ => -1
  | m + 1, i => if w = kw i then nI i else kx w m (i + 1)
def keysT (I : e_I) : Prop := ∀ i, i < 6 → I 6 i = nI (r_code (kw i))
theorem C_keyOf {I : e_I} {w : List Nat} (hk : keysT I) (hw : r_word w) : f_X6_keyOf (nI (r_code w)) I = some (kx w 6 0) := by
  have go : ∀ m i n, i + m = 6 → m < n → f_X6_keyOf_2 I (nI (r_code w)) (fun (_ : Unit) => some (-1)) (fun (v2_1 : Int32) => some v2_1) n (nI i) = some (kx w m i) := by
    intro m
    induction m with
    | zero =>
      intro i n h0 hn
      obtain ⟨n', rfl⟩ : ∃ k, n = k + 1 := ⟨n - 1, by omega⟩
      have h0 : i = 6 := h0
      subst h0
      rfl
    | succ m ih =>
      intro i n h0 hn
      obtain ⟨n', rfl⟩ : ∃ k, n = k + 1 := ⟨n - 1, by omega⟩
      have lt : ¬ nI i ≥ Int32.ofNat 6 := c_ge (N := 6) (by omega) (by decide)
      have ix : e_ix (nI i) 6 = true := nI_ix (by omega) (by omega)
      have ce := code_eq hw (kw_word i (by omega))
      rw [f_X6_keyOf_2, if_neg lt]
      unfold e_as
      rw [if_pos ix, nI_clamp (n := i) (by omega), hk i (by omega)]
      by_cases q : w = kw i
      · have er : kx w (m + 1) i = nI i := if_pos q
        rw [er, if_neg (fun n => n (ce.mpr q).symm)]
      · have er : kx w (m + 1) i = kx w m (i + 1) := if_neg q
        rw [er, if_pos (fun n => q (ce.mp n.symm)), let_eq, nI_1 i]
        exact ih (i + 1) n' (by omega) (by omega)
  unfold f_X6_keyOf
  exact go 6 0 e_FU rfl (wp_FU (by decide))
-- the model asks for a word
def TK (N : Nat) (D : Nat → Nat) (p : Nat) (J : e_I) : Prop := J 83 12 = nI (tq N D p) ∧ J 83 13 = nI (te N D p) ∧ J 83 14 = nI (mk (tk N D p)) ∧ (tk N D p = 1 → J 83 15 = nI (tv N D p))
theorem mk_2 {k : Nat} : nI (mk k) = 2 ↔ k = 0 := by
  unfold mk
  by_cases a : k = 0
  · rw [if_pos a]
    exact ⟨fun _ => a, fun _ => rfl⟩
  · rw [if_neg a]
    by_cases b : k = 1
    · rw [if_pos b]
      exact ⟨fun z => absurd z (by decide), fun z => absurd z a⟩
    · rw [if_neg b]
      by_cases c : k = 2
      · rw [if_pos c]
        exact ⟨fun z => absurd z (by decide), fun z => absurd z a⟩
      · rw [if_neg c]
        by_cases d : k = 3
        · rw [if_pos d]
          exact ⟨fun z => absurd z (by decide), fun z => absurd z a⟩
        · rw [if_neg d]
          exact ⟨fun z => absurd z (by decide), fun z => absurd z a⟩
theorem mk_3 {k : Nat} : nI (mk k) = 3 ↔ k = 1 := by
  unfold mk
  by_cases a : k = 0
  · rw [if_pos a]
    exact ⟨fun z => absurd z (by decide), fun z => by omega⟩
  · rw [if_neg a]
    by_cases b : k = 1
    · rw [if_pos b]
      exact ⟨fun _ => b, fun _ => rfl⟩
    · rw [if_neg b]
      by_cases c : k = 2
      · rw [if_pos c]
        exact ⟨fun z => absurd z (by decide), fun z => absurd z b⟩
      · rw [if_neg c]
        by_cases d : k = 3
        · rw [if_pos d]
          exact ⟨fun z => absurd z (by decide), fun z => absurd z b⟩
        · rw [if_neg d]
          exact ⟨fun z => absurd z (by decide), fun z => absurd z b⟩
theorem mk_59 {k : Nat} : nI (mk k) = 59 ↔ k = 2 := by
  unfold mk
  by_cases a : k = 0
  · rw [if_pos a]
    exact ⟨fun z => absurd z (by decide), fun z => by omega⟩
  · rw [if_neg a]
    by_cases b : k = 1
    · rw [if_pos b]
      exact ⟨fun z => absurd z (by decide), fun z => by omega⟩
    · rw [if_neg b]
      by_cases c : k = 2
      · rw [if_pos c]
        exact ⟨fun _ => c, fun _ => rfl⟩
      · rw [if_neg c]
        by_cases d : k = 3
        · rw [if_pos d]
          exact ⟨fun z => absurd z (by decide), fun z => absurd z c⟩
        · rw [if_neg d]
          exact ⟨fun z => absurd z (by decide), fun z => absurd z c⟩
theorem mk_0 {k : Nat} : nI (mk k) = 0 ↔ k = 3 := by
  unfold mk
  by_cases a : k = 0
  · rw [if_pos a]
    exact ⟨fun z => absurd z (by decide), fun z => by omega⟩
  · rw [if_neg a]
    by_cases b : k = 1
    · rw [if_pos b]
      exact ⟨fun z => absurd z (by decide), fun z => by omega⟩
    · rw [if_neg b]
      by_cases c : k = 2
      · rw [if_pos c]
        exact ⟨fun z => absurd z (by decide), fun z => by omega⟩
      · rw [if_neg c]
        by_cases d : k = 3
        · rw [if_pos d]
          exact ⟨fun _ => d, fun _ => rfl⟩
        · rw [if_neg d]
          exact ⟨fun z => absurd z (by decide), fun z => absurd z d⟩
theorem lit_ok : ∀ i, i < 6 → e_sn (1000 + i) = (kw i).length ∧ ∀ j, j < (kw i).length → e_sc (1000 + i) (nI j) = nI ((kw i).getD j 0 + 96) := by decide +kernel
theorem M_isWord {N p i : Nat} {D : Nat → Nat} {J : e_I} (hi : i < 6) (hN : N ≤ 500) (hp : p ≤ N) (hm : mT J N D) (ht : TK N D p J) : f_X8_isWord (1000 + i) J = some (if tk N D p = 0 ∧ tw N D p = kw i then 1 else 0) := by
  obtain ⟨t12, t13, t14, _⟩ := ht
  obtain ⟨lit1, lit2⟩ := lit_ok i hi
  have kl := kw_word i hi
  unfold f_X8_isWord f_X8_isWord_24
  rw [t14]
  by_cases h0 : tk N D p = 0
  · obtain ⟨w1, w2, w3, w4, w5⟩ := tok_word h0
    have eN := (te_le (D := D) hp).2
    have lt : (tw N D p).length = te N D p - tq N D p := wl_len _
    have dv : ∀ k, k < te N D p - tq N D p → D (tq N D p + k) = (tw N D p).getD k 0 + 96 := fun k hk => by
      have a := isL_i.mp (w4 k hk)
      have b : (tw N D p).getD k 0 = D (tq N D p + k) - 96 := wl_get _ k hk
      omega
    have sl : e_sl (1000 + i) = nI (kw i).length := by
      unfold e_sl
      rw [lit1]
      rfl
    rw [if_neg (fun n => n (mk_2.mpr h0)), t13, t12, nI_sub (by omega), sl]
    by_cases hl : te N D p - tq N D p = (kw i).length
    · rw [if_pos (by rw [hl])]
      have go : ∀ m j n, j + m = (kw i).length → m < n → (∀ k, k < j → (tw N D p).getD k 0 = (kw i).getD k 0) → f_X8_isWord_28 (1000 + i) J (fun (_ : Unit) => some 1) (fun (_ : Unit) => some 0) n (nI j) = some (if tk N D p = 0 ∧ tw N D p = kw i then 1 else 0) := by
        intro m
        induction m with
        | zero =>
          intro j n hj hn hk
          obtain ⟨n', rfl⟩ : ∃ k, n = k + 1 := ⟨n - 1, by omega⟩
          have hj : j = (kw i).length := hj
          have ge : nI j ≥ e_sl (1000 + i) := by
            rw [sl]
            exact nI_le (by omega) (by omega)
          have e : tw N D p = kw i := list_eq _ _ (by omega) (fun k hk2 => hk k (by omega))
          rw [f_X8_isWord_28, if_pos ge, if_pos ⟨h0, e⟩]
        | succ m ih =>
          intro j n hj hn hk
          obtain ⟨n', rfl⟩ : ∃ k, n = k + 1 := ⟨n - 1, by omega⟩
          have ge : ¬ nI j ≥ e_sl (1000 + i) := by
            rw [sl]
            exact c_ge (by omega) (by omega)
          have ix : e_ix (nI (tq N D p + j)) 500 = true := nI_ix (by omega) (by omega)
          have ix2 : e_ix (nI j) (e_sn (1000 + i)) = true := by
            rw [lit1]
            exact nI_ix (by omega) (by omega)
          have db := (hm (tq N D p + j) (by omega))
          have kb : (kw i).getD j 0 ≤ 26 := by
            have g := kl.2.2 ((kw i).getD j 0) (gd_mem _ _ (by omega))
            exact g.2
          have ce : nI (D (tq N D p + j)) = nI ((kw i).getD j 0 + 96) ↔ (tw N D p).getD j 0 = (kw i).getD j 0 := by
            rw [nI_eq (by omega) (by omega), dv j (by omega)]
            omega
          rw [f_X8_isWord_28, if_neg ge, t12, nI_add]
          unfold e_as
          rw [if_pos ix, if_pos ix2, nI_clamp (n := tq N D p + j) (by omega), db.1, lit2 j (by omega)]
          by_cases q : (tw N D p).getD j 0 = (kw i).getD j 0
          · rw [if_pos (ce.mpr q), let_eq, nI_1 j]
            refine ih (j + 1) n' (by omega) (by omega) (fun k hk2 => ?_)
            by_cases z : k = j
            · rw [z]
              exact q
            · exact hk k (by omega)
          · rw [if_neg (fun n => q (ce.mp n)), if_neg (fun n => q (by rw [n.2]))]
      exact go (kw i).length 0 e_FU (by omega) (wp_FU (by have := kl.2.1; omega)) (fun k hk => by omega)
    · have kl6 := kl.2.1
      rw [if_neg (nI_n hl (by omega) (by omega)), if_neg (fun n => hl (by rw [← lt, n.2]))]
  · rw [if_pos (fun n => h0 (mk_2.mp n)), if_neg (fun n => h0 n.1)]
theorem kx_n {w : List Nat} : kx w 6 0 = -1 ↔ ∀ i, i < 6 → w ≠ kw i := by
  constructor
  · intro h i hi e
    have k : ∀ i, i < 6 → kx (kw i) 6 0 ≠ -1 := by decide +kernel
    rw [e] at h
    exact k i hi h
  · intro h
    unfold kx kx kx kx kx kx kx
    rw [if_neg (h 0 (by decide)), if_neg (h 1 (by decide)), if_neg (h 2 (by decide)), if_neg (h 3 (by decide)), if_neg (h 4 (by decide)), if_neg (h 5 (by decide))]
theorem M_isName {N p : Nat} {D : Nat → Nat} {J : e_I} (hN : N ≤ 500) (hp : p ≤ N) (hm : mT J N D) (ht : TK N D p J) : f_X8_isName J = some (if tk N D p = 0 ∧ kx (tw N D p) 6 0 = -1 then 1 else 0) := by
  unfold f_X8_isName f_X8_isName_66 f_X8_isName_67
  rw [ht.2.2.1]
  have as0 : e_as ((0 : Int32) = 0 ∨ (0 : Int32) = 1) (some (0 : Int32)) = some 0 := if_pos (Or.inl rfl)
  have as1 : e_as ((1 : Int32) = 0 ∨ (1 : Int32) = 1) (some (1 : Int32)) = some 1 := if_pos (Or.inr rfl)
  by_cases h0 : tk N D p = 0
  · have yes : ∀ i, i < 6 → tw N D p = kw i → f_X8_isWord (1000 + i) J = some 1 := fun i hi e => by
      rw [M_isWord hi hN hp hm ht, if_pos ⟨h0, e⟩]
    have no : ∀ i, i < 6 → tw N D p ≠ kw i → f_X8_isWord (1000 + i) J = some 0 := fun i hi e => by
      rw [M_isWord hi hN hp hm ht, if_neg (fun n => e n.2)]
    have bad : ∀ i, i < 6 → tw N D p = kw i → (if tk N D p = 0 ∧ kx (tw N D p) 6 0 = -1 then (1 : Int32) else 0) = 0 := fun i hi e => if_neg (fun n => kx_n.mp n.2 i hi e)
    have n10 : ¬ ((0 : Int32) ≠ 0) := fun n => n rfl
    have p10 : (1 : Int32) ≠ 0 := by decide
    rw [if_neg (fun n => n (mk_2.mpr h0))]
    by_cases q5 : tw N D p = kw 5
    · rw [bad 5 (by decide) q5, show f_X8_isWord 1005 J = some 1 from yes 5 (by decide) q5, r_b1, if_pos p10, as0]
    · rw [show f_X8_isWord 1005 J = some 0 from no 5 (by decide) q5, r_b1, if_neg n10]
      by_cases q0 : tw N D p = kw 0
      · rw [bad 0 (by decide) q0, show f_X8_isWord 1000 J = some 1 from yes 0 (by decide) q0, r_b1, if_pos p10, as0]
      · rw [show f_X8_isWord 1000 J = some 0 from no 0 (by decide) q0, r_b1, if_neg n10]
        by_cases q1 : tw N D p = kw 1
        · rw [bad 1 (by decide) q1, show f_X8_isWord 1001 J = some 1 from yes 1 (by decide) q1, r_b1, if_pos p10, as0]
        · rw [show f_X8_isWord 1001 J = some 0 from no 1 (by decide) q1, r_b1, if_neg n10]
          by_cases q2 : tw N D p = kw 2
          · rw [bad 2 (by decide) q2, show f_X8_isWord 1002 J = some 1 from yes 2 (by decide) q2, r_b1, if_pos p10, as0]
          · rw [show f_X8_isWord 1002 J = some 0 from no 2 (by decide) q2, r_b1, if_neg n10]
            by_cases q3 : tw N D p = kw 3
            · rw [bad 3 (by decide) q3, show f_X8_isWord 1003 J = some 1 from yes 3 (by decide) q3, r_b1, if_pos p10, as0]
            · rw [show f_X8_isWord 1003 J = some 0 from no 3 (by decide) q3, r_b1, if_neg n10]
              by_cases q4 : tw N D p = kw 4
              · rw [bad 4 (by decide) q4, show f_X8_isWord 1004 J = some 1 from yes 4 (by decide) q4, r_b1, if_pos p10, as0]
              · have all : kx (tw N D p) 6 0 = -1 := kx_n.mpr (fun i hi => by
                  have cs : i = 0 ∨ i = 1 ∨ i = 2 ∨ i = 3 ∨ i = 4 ∨ i = 5 := by omega
                  rcases cs with rfl | rfl | rfl | rfl | rfl | rfl
                  · exact q0
                  · exact q1
                  · exact q2
                  · exact q3
                  · exact q4
                  · exact q5)
                rw [show f_X8_isWord 1004 J = some 0 from no 4 (by decide) q4, r_b1, if_neg n10, as1, if_pos ⟨h0, all⟩]
  · rw [if_pos (fun n => h0 (mk_2.mp n)), as0, if_neg (fun n => h0 n.1)]
