-- numbers, steps, loops: what the pure comparison stands on
theorem n0 : (0 : Int32) = nI 0 := rfl
theorem n1 : (1 : Int32) = nI 1 := rfl
theorem n2 : (2 : Int32) = nI 2 := rfl
theorem n3 : (3 : Int32) = nI 3 := rfl
theorem n4 : (4 : Int32) = nI 4 := rfl
theorem n5 : (5 : Int32) = nI 5 := rfl
theorem n6 : (6 : Int32) = nI 6 := rfl
theorem n7 : (7 : Int32) = nI 7 := rfl
theorem n8 : (8 : Int32) = nI 8 := rfl
theorem n9 : (9 : Int32) = nI 9 := rfl
theorem n10 : (10 : Int32) = nI 10 := rfl
theorem n11 : (11 : Int32) = nI 11 := rfl
theorem n12 : (12 : Int32) = nI 12 := rfl
theorem n13 : (13 : Int32) = nI 13 := rfl
theorem n14 : (14 : Int32) = nI 14 := rfl
theorem n15 : (15 : Int32) = nI 15 := rfl
theorem n16 : (16 : Int32) = nI 16 := rfl
theorem n17 : (17 : Int32) = nI 17 := rfl
theorem n18 : (18 : Int32) = nI 18 := rfl
theorem n19 : (19 : Int32) = nI 19 := rfl
theorem n20 : (20 : Int32) = nI 20 := rfl
theorem n21 : (21 : Int32) = nI 21 := rfl
theorem n22 : (22 : Int32) = nI 22 := rfl
theorem n23 : (23 : Int32) = nI 23 := rfl
theorem n24 : (24 : Int32) = nI 24 := rfl
theorem n25 : (25 : Int32) = nI 25 := rfl
theorem n26 : (26 : Int32) = nI 26 := rfl
theorem n27 : (27 : Int32) = nI 27 := rfl
theorem n28 : (28 : Int32) = nI 28 := rfl
theorem n29 : (29 : Int32) = nI 29 := rfl
theorem n30 : (30 : Int32) = nI 30 := rfl
theorem n31 : (31 : Int32) = nI 31 := rfl
theorem n32 : (32 : Int32) = nI 32 := rfl
theorem n33 : (33 : Int32) = nI 33 := rfl
theorem n34 : (34 : Int32) = nI 34 := rfl
theorem n35 : (35 : Int32) = nI 35 := rfl
theorem n36 : (36 : Int32) = nI 36 := rfl
theorem n37 : (37 : Int32) = nI 37 := rfl
theorem n38 : (38 : Int32) = nI 38 := rfl
theorem n39 : (39 : Int32) = nI 39 := rfl
theorem n40 : (40 : Int32) = nI 40 := rfl
theorem n41 : (41 : Int32) = nI 41 := rfl
theorem n42 : (42 : Int32) = nI 42 := rfl
theorem n43 : (43 : Int32) = nI 43 := rfl
theorem n44 : (44 : Int32) = nI 44 := rfl
theorem n45 : (45 : Int32) = nI 45 := rfl
theorem n46 : (46 : Int32) = nI 46 := rfl
theorem n47 : (47 : Int32) = nI 47 := rfl
theorem n48 : (48 : Int32) = nI 48 := rfl
theorem n49 : (49 : Int32) = nI 49 := rfl
theorem n50 : (50 : Int32) = nI 50 := rfl
theorem n51 : (51 : Int32) = nI 51 := rfl
theorem n52 : (52 : Int32) = nI 52 := rfl
theorem n53 : (53 : Int32) = nI 53 := rfl
theorem n54 : (54 : Int32) = nI 54 := rfl
theorem n55 : (55 : Int32) = nI 55 := rfl
theorem n56 : (56 : Int32) = nI 56 := rfl
theorem n57 : (57 : Int32) = nI 57 := rfl
theorem n58 : (58 : Int32) = nI 58 := rfl
theorem n59 : (59 : Int32) = nI 59 := rfl
theorem n60 : (60 : Int32) = nI 60 := rfl
theorem n61 : (61 : Int32) = nI 61 := rfl
theorem n62 : (62 : Int32) = nI 62 := rfl
theorem n63 : (63 : Int32) = nI 63 := rfl
theorem n64 : (64 : Int32) = nI 64 := rfl
theorem n65 : (65 : Int32) = nI 65 := rfl
theorem n66 : (66 : Int32) = nI 66 := rfl
theorem n67 : (67 : Int32) = nI 67 := rfl
theorem n68 : (68 : Int32) = nI 68 := rfl
theorem n69 : (69 : Int32) = nI 69 := rfl
theorem n70 : (70 : Int32) = nI 70 := rfl
theorem n71 : (71 : Int32) = nI 71 := rfl
theorem n72 : (72 : Int32) = nI 72 := rfl
theorem n73 : (73 : Int32) = nI 73 := rfl
theorem n74 : (74 : Int32) = nI 74 := rfl
theorem n75 : (75 : Int32) = nI 75 := rfl
theorem n76 : (76 : Int32) = nI 76 := rfl
theorem n77 : (77 : Int32) = nI 77 := rfl
theorem n78 : (78 : Int32) = nI 78 := rfl
theorem n79 : (79 : Int32) = nI 79 := rfl
theorem n80 : (80 : Int32) = nI 80 := rfl
theorem n81 : (81 : Int32) = nI 81 := rfl
theorem n82 : (82 : Int32) = nI 82 := rfl
theorem n83 : (83 : Int32) = nI 83 := rfl
theorem n84 : (84 : Int32) = nI 84 := rfl
theorem n85 : (85 : Int32) = nI 85 := rfl
theorem n86 : (86 : Int32) = nI 86 := rfl
theorem n87 : (87 : Int32) = nI 87 := rfl
theorem n88 : (88 : Int32) = nI 88 := rfl
theorem n89 : (89 : Int32) = nI 89 := rfl
theorem n90 : (90 : Int32) = nI 90 := rfl
theorem n91 : (91 : Int32) = nI 91 := rfl
theorem n92 : (92 : Int32) = nI 92 := rfl
theorem n93 : (93 : Int32) = nI 93 := rfl
theorem n94 : (94 : Int32) = nI 94 := rfl
theorem n95 : (95 : Int32) = nI 95 := rfl
theorem n96 : (96 : Int32) = nI 96 := rfl
theorem n97 : (97 : Int32) = nI 97 := rfl
theorem n98 : (98 : Int32) = nI 98 := rfl
theorem n99 : (99 : Int32) = nI 99 := rfl
theorem n100 : (100 : Int32) = nI 100 := rfl
theorem n216 : (216 : Int32) = nI 216 := rfl
theorem n150 : (150 : Int32) = nI 150 := rfl
theorem n240 : (240 : Int32) = nI 240 := rfl
theorem n312 : (312 : Int32) = nI 312 := rfl
theorem n360 : (360 : Int32) = nI 360 := rfl
theorem n396 : (396 : Int32) = nI 396 := rfl
theorem n400 : (400 : Int32) = nI 400 := rfl
theorem n500 : (500 : Int32) = nI 500 := rfl
theorem n999 : (999 : Int32) = nI 999 := rfl
theorem n3960 : (3960 : Int32) = nI 3960 := rfl
theorem n255 : (255 : Int32) = nI 255 := rfl
theorem n177 : (177 : Int32) = nI 177 := rfl
theorem l0 : (0 : Int64) = lN 0 := rfl
theorem l1 : (1 : Int64) = lN 1 := rfl
theorem l20 : (20 : Int64) = lN 20 := rfl
theorem l400 : (400 : Int64) = lN 400 := rfl
theorem l16807 : (16807 : Int64) = lN 16807 := rfl
theorem l2147483647 : (2147483647 : Int64) = lN 2147483647 := rfl
theorem nI_sub {a b : Nat} (h : b ≤ a) : nI a - nI b = nI (a - b) := by
  have e : nI a = nI (a - b) + nI b := by rw [nI_add, Nat.sub_add_cancel h]
  rw [e, Int32.add_sub_cancel]
theorem nI_mul (a b : Nat) : nI a * nI b = nI (a * b) := (Int32.ofNat_mul a b).symm
theorem nI_div {a b : Nat} (hb : 0 < b) (ha : a < 2 ^ 31) (hb2 : b < 2 ^ 31) : nI a / nI b = nI (a / b) := by
  have hd : a / b < 2 ^ 31 := Nat.lt_of_le_of_lt (Nat.div_le_self a b) ha
  refine Int32.toInt_inj.mp ?_
  rw [lg_idiv_nonneg (by rw [nI_toInt ha]; omega) (by rw [nI_toInt hb2]; omega), nI_toInt ha, nI_toInt hb2, nI_toInt hd]
  exact (Int.natCast_ediv a b).symm
theorem nI_rm {a b : Nat} (hb : 0 < b) (ha : a < 2 ^ 31) (hb2 : b < 2 ^ 31) : e_rm (nI a) (nI b) = nI (a % b) := by
  unfold e_rm
  have h := Nat.div_add_mod a b
  have h2 : b * (a / b) = a / b * b := Nat.mul_comm _ _
  rw [nI_div hb ha hb2, nI_mul, nI_sub (by omega)]
  congr 1
  omega
theorem nI_ix {a N : Nat} (h : a < N) (ha : a < 2 ^ 31) : e_ix (nI a) N = true := by
  unfold e_ix
  rw [nI_toInt ha]
  exact decide_eq_true ⟨Int.natCast_nonneg _, Int.ofNat_lt.mpr h⟩
theorem nI_m1 {a : Nat} (ha : a < 2 ^ 31) : nI a ≠ -1 := by
  intro h
  have e := congrArg Int32.toInt h
  rw [nI_toInt ha] at e
  have e2 : (-1 : Int32).toInt = -1 := rfl
  omega
theorem m1_lt : (-1 : Int32) < 0 := by decide
theorem nI_r {a : Nat} (h : a < 2 ^ 31) : r_n (nI a) = a := nI_clamp h
theorem nI_lo {v k : Int32} {n : Nat} (h0 : 0 ≤ v) (h4 : v ≤ k) (hk : k.toInt = n) : ∃ j, j ≤ n ∧ v = nI j := nI_of2 hk (Int32.not_lt.mpr h0) h4
theorem lN_toInt' {n : Nat} (h : n < 2 ^ 63) : (lN n).toInt = (n : Int) := lg_ofNat_toInt h
theorem lN_lt' {a b : Nat} (ha : a < 2 ^ 63) (hb : b < 2 ^ 63) : lN a < lN b ↔ a < b := by
  rw [Int64.lt_iff_toInt_lt, lN_toInt' ha, lN_toInt' hb]; omega
theorem lN_le' {a b : Nat} (ha : a < 2 ^ 63) (hb : b < 2 ^ 63) : lN a ≤ lN b ↔ a ≤ b := by
  rw [Int64.le_iff_toInt_le, lN_toInt' ha, lN_toInt' hb]; omega
theorem lN_eq' {a b : Nat} (ha : a < 2 ^ 63) (hb : b < 2 ^ 63) : lN a = lN b ↔ a = b := by
  rw [← Int64.toInt_inj, lN_toInt' ha, lN_toInt' hb]; omega
theorem lN_cmp {a b : Nat} (ha : a < 2 ^ 63) (hb : b < 2 ^ 63) : lg_cmp (lN a) (lN b) ≤ 0 ↔ a ≤ b := by
  rw [lg_cmp_le, lN_le' ha hb]
theorem lN_max {a b : Nat} (ha : a < 2 ^ 63) (hb : b < 2 ^ 63) : e_maxl (lN a) (lN b) = lN (max a b) := by
  unfold e_maxl
  by_cases h : b < a
  · rw [if_pos ((lN_lt' hb ha).mpr h), Nat.max_eq_left (by omega)]
  · rw [if_neg (fun q => h ((lN_lt' hb ha).mp q)), Nat.max_eq_right (by omega)]
theorem nI_min {a b : Nat} (ha : a < 2 ^ 31) (hb : b < 2 ^ 31) : e_min (nI a) (nI b) = nI (min a b) := by
  unfold e_min
  by_cases h : b < a
  · rw [if_pos ((nI_ltI hb ha).mpr h), Nat.min_eq_right (by omega)]
  · rw [if_neg (fun q => h ((nI_ltI hb ha).mp q)), Nat.min_eq_left (by omega)]
theorem nI_max {a b : Nat} (ha : a < 2 ^ 31) (hb : b < 2 ^ 31) : e_max (nI a) (nI b) = nI (max a b) := by
  unfold e_max
  by_cases h : a < b
  · rw [if_pos ((nI_ltI ha hb).mpr h), Nat.max_eq_right (by omega)]
  · rw [if_neg (fun q => h ((nI_ltI ha hb).mp q)), Nat.max_eq_left (by omega)]
-- what a picture comes to
theorem e_lt {α : Type} {β : Sort _} (a : α) (F : α → β) : e_let a F = F a := rfl
def wp {τ : Type} (o : Option τ) (Q : τ → Prop) : Prop := ∃ p, o = some p ∧ Q p
theorem wp_some {τ : Type} {p : τ} {Q : τ → Prop} (h : Q p) : wp (some p) Q := ⟨p, rfl, h⟩
theorem wp_eq {τ : Type} {o : Option τ} {p : τ} {Q : τ → Prop} (e : o = some p) (h : Q p) : wp o Q := ⟨p, e, h⟩
theorem wp_mono {τ : Type} {o : Option τ} {Q R : τ → Prop} (h : wp o Q) (k : ∀ p, Q p → R p) : wp o R := by
  obtain ⟨p, e, q⟩ := h
  exact ⟨p, e, k p q⟩
theorem wp_let {α τ : Type} {a : α} {F : α → Option τ} {Q : τ → Prop} (h : wp (F a) Q) : wp (e_let a F) Q := h
theorem wp_as {τ : Type} {c : Prop} [Decidable c] {F : Option τ} {Q : τ → Prop} (hc : c) (h : wp F Q) : wp (e_as c F) Q := by
  unfold e_as
  rw [if_pos hc]
  exact h
theorem wp_t {τ : Type} {c : Prop} [Decidable c] {A B : Option τ} {Q : τ → Prop} (hc : c) (h : wp A Q) : wp (if c then A else B) Q := by
  rw [if_pos hc]
  exact h
theorem wp_f {τ : Type} {c : Prop} [Decidable c] {A B : Option τ} {Q : τ → Prop} (hc : ¬ c) (h : wp B Q) : wp (if c then A else B) Q := by
  rw [if_neg hc]
  exact h
theorem wp_c {τ : Type} {c : Prop} [Decidable c] {A B : Option τ} {Q : τ → Prop} (h : c → wp A Q) (k : ¬ c → wp B Q) : wp (if c then A else B) Q := by
  by_cases hc : c
  · exact wp_t hc (h hc)
  · exact wp_f hc (k hc)
theorem wp_b1 {α τ : Type} {o : Option α} {F : α → Option τ} {Q : τ → Prop} (h : wp o (fun p => wp (F p) Q)) : wp (e_b1 o F) Q := by
  obtain ⟨p, e, q⟩ := h
  rw [e]
  exact q
theorem wp_b2 {α β τ : Type} {o : Option (α × β)} {F : α → β → Option τ} {Q : τ → Prop} (h : wp o (fun p => wp (F p.1 p.2) Q)) : wp (e_b2 o F) Q := by
  obtain ⟨p, e, q⟩ := h
  rw [e]
  exact q
theorem wp_b3 {α β γ τ : Type} {o : Option (α × β × γ)} {F : α → β → γ → Option τ} {Q : τ → Prop} (h : wp o (fun p => wp (F p.1 p.2.1 p.2.2) Q)) : wp (e_b3 o F) Q := by
  obtain ⟨p, e, q⟩ := h
  rw [e]
  exact q
-- .. with the callee's own row
theorem wp_c1 {α τ : Type} {o : Option α} {F : α → Option τ} {R : α → Prop} {Q : τ → Prop} (h : wp o R) (k : ∀ p, R p → wp (F p) Q) : wp (e_b1 o F) Q := wp_b1 (wp_mono h k)
theorem wp_c2 {α β τ : Type} {o : Option (α × β)} {F : α → β → Option τ} {R : α × β → Prop} {Q : τ → Prop} (h : wp o R) (k : ∀ p q, R (p, q) → wp (F p q) Q) : wp (e_b2 o F) Q := wp_b2 (wp_mono h (fun p r => k p.1 p.2 r))
theorem wp_c3 {α β γ τ : Type} {o : Option (α × β × γ)} {F : α → β → γ → Option τ} {R : α × β × γ → Prop} {Q : τ → Prop} (h : wp o R) (k : ∀ p q r, R (p, q, r) → wp (F p q r) Q) : wp (e_b3 o F) Q := wp_b3 (wp_mono h (fun p r => k p.1 p.2.1 p.2.2 r))
theorem wp_e1 {α τ : Type} {o : Option α} {F : α → Option τ} {p : α} {Q : τ → Prop} (e : o = some p) (k : wp (F p) Q) : wp (e_b1 o F) Q := wp_b1 ⟨p, e, k⟩
theorem wp_e2 {α β τ : Type} {o : Option (α × β)} {F : α → β → Option τ} {p : α} {q : β} {Q : τ → Prop} (e : o = some (p, q)) (k : wp (F p q) Q) : wp (e_b2 o F) Q := wp_b2 ⟨(p, q), e, k⟩
theorem wp_e3 {α β γ τ : Type} {o : Option (α × β × γ)} {F : α → β → γ → Option τ} {p : α} {q : β} {r : γ} {Q : τ → Prop} (e : o = some (p, q, r)) (k : wp (F p q r) Q) : wp (e_b3 o F) Q := wp_b3 ⟨(p, q, r), e, k⟩
-- a counting loop, F fuel counter state; P what holds ahead of each turn
theorem wp_loop {σ τ : Type} {F : Nat → Nat → σ → Option τ} {Q : τ → Prop} (N : Nat) (P : Nat → σ → Prop)
    (hend : ∀ n s, P N s → wp (F (n + 1) N s) Q)
    (hstep : ∀ n i s, i < N → P i s → (∀ s', P (i + 1) s' → wp (F n (i + 1) s') Q) → wp (F (n + 1) i s) Q) :
    ∀ n i s, i ≤ N → N - i < n → P i s → wp (F n i s) Q := by
  intro n
  induction n with
  | zero => intro i s _ h; omega
  | succ n ih =>
    intro i s hi hn hP
    by_cases h : i = N
    · subst h
      exact hend n s hP
    · exact hstep n i s (by omega) hP (fun s' h' => ih (i + 1) s' (by omega) (by omega) h')
theorem wp_FU {n : Nat} (h : n < 1000000) : n < e_FU := h
-- cells that a step leaves alone
def fr (S : Nat → Nat → Prop) (I J : e_I) : Prop := ∀ a i, ¬ S a i → J a i = I a i
def frL (S : Nat → Nat → Prop) (I J : e_L) : Prop := ∀ a i, ¬ S a i → J a i = I a i
theorem fr_rfl {S : Nat → Nat → Prop} {I : e_I} : fr S I I := fun _ _ _ => rfl
theorem frL_rfl {S : Nat → Nat → Prop} {I : e_L} : frL S I I := fun _ _ _ => rfl
theorem fr_trans {S T : Nat → Nat → Prop} {I J K : e_I} (h : fr S I J) (k : fr T J K) : fr (fun a i => S a i ∨ T a i) I K := fun a i n => by rw [k a i (fun q => n (Or.inr q)), h a i (fun q => n (Or.inl q))]
theorem fr_tr {S : Nat → Nat → Prop} {I J K : e_I} (h : fr S I J) (k : fr S J K) : fr S I K := fun a i n => by rw [k a i n, h a i n]
theorem frL_tr {S : Nat → Nat → Prop} {I J K : e_L} (h : frL S I J) (k : frL S J K) : frL S I K := fun a i n => by rw [k a i n, h a i n]
theorem fr_mono {S T : Nat → Nat → Prop} {I J : e_I} (hs : ∀ a i, S a i → T a i) (h : fr S I J) : fr T I J := fun a i n => h a i (fun q => n (hs a i q))
theorem frL_mono {S T : Nat → Nat → Prop} {I J : e_L} (hs : ∀ a i, S a i → T a i) (h : frL S I J) : frL T I J := fun a i n => h a i (fun q => n (hs a i q))
theorem fr_ui {S : Nat → Nat → Prop} {I : e_I} {a i : Nat} {x : Int32} (h : S a i) : fr S I (e_ui I a i x) := fun b j n => by
  show (if b = a then (if j = i then x else I b j) else I b j) = I b j
  by_cases hb : b = a
  · by_cases hj : j = i
    · subst hb hj
      exact absurd h n
    · rw [if_pos hb, if_neg hj]
  · rw [if_neg hb]
theorem frL_ul {S : Nat → Nat → Prop} {I : e_L} {a i : Nat} {x : Int64} (h : S a i) : frL S I (e_ul I a i x) := fun b j n => by
  show (if b = a then (if j = i then x else I b j) else I b j) = I b j
  by_cases hb : b = a
  · by_cases hj : j = i
    · subst hb hj
      exact absurd h n
    · rw [if_pos hb, if_neg hj]
  · rw [if_neg hb]
theorem ui_s {I : e_I} {a i : Nat} {x : Int32} : e_ui I a i x a i = x := by
  show (if a = a then (if i = i then x else I a i) else I a i) = x
  rw [if_pos rfl, if_pos rfl]
theorem ul_s {I : e_L} {a i : Nat} {x : Int64} : e_ul I a i x a i = x := by
  show (if a = a then (if i = i then x else I a i) else I a i) = x
  rw [if_pos rfl, if_pos rfl]
theorem ui_i {I : e_I} {a i b j : Nat} {x : Int32} (h : j ≠ i) : e_ui I a i x b j = I b j := by
  show (if b = a then (if j = i then x else I b j) else I b j) = I b j
  rw [if_neg h]
  by_cases hb : b = a
  · rw [if_pos hb]
  · rw [if_neg hb]
theorem ui_a {I : e_I} {a i b j : Nat} {x : Int32} (h : b ≠ a) : e_ui I a i x b j = I b j := by
  show (if b = a then (if j = i then x else I b j) else I b j) = I b j
  rw [if_neg h]
theorem ul_i {I : e_L} {a i b j : Nat} {x : Int64} (h : j ≠ i) : e_ul I a i x b j = I b j := by
  show (if b = a then (if j = i then x else I b j) else I b j) = I b j
  rw [if_neg h]
  by_cases hb : b = a
  · rw [if_pos hb]
  · rw [if_neg hb]
theorem ul_a {I : e_L} {a i b j : Nat} {x : Int64} (h : b ≠ a) : e_ul I a i x b j = I b j := by
  show (if b = a then (if j = i then x else I b j) else I b j) = I b j
  rw [if_neg h]
