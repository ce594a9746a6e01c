-- TEXT: names kept and asked for
theorem M_isAt {a1 : Nat} {J : e_I} {N f t b : Nat} {D : Nat → Nat} {w : List Nat} (ha : a1 = 87 ∨ a1 = 88) (hN : N ≤ 500) (hm : mT J N D) (hf : f ≤ t) (ht : t ≤ N) (hb : b < 9) (hw : r_word w) (row : ∀ k, k < 6 → J a1 (6 * b + k) = if k < w.length then nI (w.getD k 0 + 96) else 0) : ((t - f = w.length ∧ ∀ k, k < w.length → D (f + k) = w.getD k 0 + 96) ∧ f_X8_isAt a1 ((6 : Int32) * nI b) (nI f) (nI t) J = some 1) ∨ (¬ (t - f = w.length ∧ ∀ k, k < w.length → D (f + k) = w.getD k 0 + 96) ∧ f_X8_isAt a1 ((6 : Int32) * nI b) (nI f) (nI t) J = some 0) := by
  obtain ⟨w1, w6, wl⟩ := hw
  have ln : e_ln a1 = 54 := by
    rcases ha with rfl | rfl
    · rfl
    · rfl
  have x6 : (6 : Int32) * nI b = nI (6 * b) := nI_mul 6 b
  have wb : ∀ k, k < w.length → 1 ≤ w.getD k 0 ∧ w.getD k 0 ≤ 26 := fun k hk => wl _ (gd_mem w k hk)
  rw [x6]
  have bad : ∀ m k n, k + m = 6 → m < n → f_X8_isAt_19 a1 J (nI (6 * b)) (nI f) (nI t) (fun (v5_1 : Int32) => e_as (v5_1 = 0 ∨ v5_1 = 1) (some v5_1)) n 0 (nI k) = some 0 := by
    intro m
    induction m with
    | zero =>
      intro k n h0 hn
      obtain ⟨n', rfl⟩ : ∃ k, n = k + 1 := ⟨n - 1, by omega⟩
      have h0 : k = 6 := h0
      subst h0
      rfl
    | succ m ih =>
      intro k n h0 hn
      obtain ⟨n', rfl⟩ : ∃ k, n = k + 1 := ⟨n - 1, by omega⟩
      have lt : ¬ nI k ≥ 6 := c_ge (N := 6) (by omega) (by decide)
      have z := ih (k + 1) n' (by omega) (by omega)
      rw [f_X8_isAt_19, if_neg lt]
      by_cases q : nI f + nI k ≥ nI t
      · rw [if_pos q]
        unfold f_X8_isAt_40 f_X8_isAt_98 f_X8_isAt_99
        rw [if_pos rfl, let_eq, nI_1 k]
        exact z
      · rw [if_neg q]
        unfold f_X8_isAt_40 f_X8_isAt_98 f_X8_isAt_99
        rw [if_pos rfl, let_eq, nI_1 k]
        exact z
  have good : t - f ≤ 6 → ∀ m k n, k + m = 6 → m < n → (∀ j, j < k → (f + j < t → D (f + j) ≠ 0 ∧ J a1 (6 * b + j) = nI (D (f + j))) ∧ (t ≤ f + j → J a1 (6 * b + j) = 0)) → ((t - f = w.length ∧ ∀ k, k < w.length → D (f + k) = w.getD k 0 + 96) ∧ f_X8_isAt_19 a1 J (nI (6 * b)) (nI f) (nI t) (fun (v5_1 : Int32) => e_as (v5_1 = 0 ∨ v5_1 = 1) (some v5_1)) n 1 (nI k) = some 1) ∨ (¬ (t - f = w.length ∧ ∀ k, k < w.length → D (f + k) = w.getD k 0 + 96) ∧ f_X8_isAt_19 a1 J (nI (6 * b)) (nI f) (nI t) (fun (v5_1 : Int32) => e_as (v5_1 = 0 ∨ v5_1 = 1) (some v5_1)) n 1 (nI k) = some 0) := by
    intro l6 m
    induction m with
    | zero =>
      intro k n h0 hn hk
      obtain ⟨n', rfl⟩ : ∃ k, n = k + 1 := ⟨n - 1, by omega⟩
      have h0 : k = 6 := h0
      subst h0
      refine Or.inl ⟨?_, rfl⟩
      have len : t - f = w.length := by
        rcases Nat.lt_trichotomy (t - f) w.length with z | z | z
        · have a := (hk (t - f) (by omega)).2 (by omega)
          rw [row (t - f) (by omega), if_pos z] at a
          exact absurd a (nI_ne0 (by omega) (by have := wb _ z; omega))
        · exact z
        · have a := (hk w.length (by omega)).1 (by omega)
          have d := (hm (f + w.length) (by omega)).2
          have e := a.2
          rw [row w.length (by omega), if_neg (Nat.lt_irrefl _)] at e
          exact absurd e.symm (nI_ne0 (by omega) (by omega))
      refine ⟨len, fun k hk2 => ?_⟩
      have a := (hk k (by omega)).1 (by omega)
      have d := (hm (f + k) (by omega)).2
      have e := a.2
      have g := wb k hk2
      rw [row k (by omega), if_pos hk2, nI_eq (by omega) (by omega)] at e
      exact e.symm
    | succ m ih =>
      intro k n h0 hn hk
      obtain ⟨n', rfl⟩ : ∃ k, n = k + 1 := ⟨n - 1, by omega⟩
      have lt : ¬ nI k ≥ 6 := c_ge (N := 6) (by omega) (by decide)
      have ixa : e_ix (nI (6 * b + k)) (e_ln a1) = true := by
        rw [ln]
        exact nI_ix (by omega) (by omega)
      have ca : (nI (6 * b + k)).toNatClampNeg = 6 * b + k := nI_clamp (by omega)
      have cf : (nI (f + k)).toNatClampNeg = f + k := nI_clamp (by omega)
      have zb := bad m (k + 1) n' (by omega) (by omega)
      have next : ((f + k < t → D (f + k) ≠ 0 ∧ J a1 (6 * b + k) = nI (D (f + k))) ∧ (t ≤ f + k → J a1 (6 * b + k) = 0)) → ∀ j, j < k + 1 → (f + j < t → D (f + j) ≠ 0 ∧ J a1 (6 * b + j) = nI (D (f + j))) ∧ (t ≤ f + j → J a1 (6 * b + j) = 0) := fun h j hj => by
        by_cases z : j = k
        · rw [z]
          exact h
        · exact hk j (by omega)
      rw [f_X8_isAt_19, if_neg lt]
      by_cases q : t ≤ f + k
      · have ge : nI f + nI k ≥ nI t := by
          rw [nI_add]
          exact nI_le q (by omega)
        rw [if_pos ge]
        unfold f_X8_isAt_40 f_X8_isAt_98 f_X8_isAt_94 f_X8_isAt_99 e_as
        rw [if_neg (by decide), if_pos rfl, nI_add, if_pos ixa, ca]
        by_cases c0 : J a1 (6 * b + k) = 0
        · rw [if_neg (fun n => n c0), let_eq, nI_1 k]
          exact ih (k + 1) n' (by omega) (by omega) (next ⟨fun n => by omega, fun _ => c0⟩)
        · refine Or.inr ⟨fun s => ?_, ?_⟩
          · rw [row k (by omega), if_neg (by omega)] at c0
            exact c0 rfl
          · rw [if_pos c0, let_eq, nI_1 k]
            exact zb
      · have ge : ¬ nI f + nI k ≥ nI t := by
          rw [nI_add]
          exact c_ge (by omega) (by omega)
        have ixf : e_ix (nI (f + k)) 500 = true := nI_ix (by omega) (by omega)
        obtain ⟨t1, t2⟩ := hm (f + k) (by omega)
        rw [if_neg ge]
        unfold f_X8_isAt_40 f_X8_isAt_98 f_X8_isAt_94 f_X8_isAt_99 e_as
        rw [if_neg (by decide), if_neg (by decide), nI_add, if_pos ixf, cf, t1]
        by_cases d0 : D (f + k) = 0
        · refine Or.inr ⟨fun s => ?_, ?_⟩
          · have := s.2 k (by omega)
            omega
          · rw [if_pos (show nI (D (f + k)) = 0 by rw [d0]; rfl), let_eq, nI_1 k]
            exact zb
        · rw [if_neg (nI_ne0 (by omega) (by omega)), nI_add, if_pos ixa, if_pos ixf, ca]
          by_cases ce : J a1 (6 * b + k) = nI (D (f + k))
          · rw [if_neg (fun n => n ce), let_eq, nI_1 k]
            exact ih (k + 1) n' (by omega) (by omega) (next ⟨fun _ => ⟨d0, ce⟩, fun n => by omega⟩)
          · refine Or.inr ⟨fun s => ?_, ?_⟩
            · have g := s.2 k (by omega)
              rw [row k (by omega), if_pos (by omega), g] at ce
              exact ce rfl
            · rw [if_pos ce, let_eq, nI_1 k]
              exact zb
  unfold f_X8_isAt f_X8_isAt_14
  rw [nI_sub hf]
  by_cases l6 : t - f ≤ 6
  · have ng : ¬ nI (t - f) > 6 := c_gt (N := 6) l6 (by decide)
    rw [if_neg ng]
    exact good l6 6 0 e_FU rfl (wp_FU (by decide)) (fun j hj => by omega)
  · have gt : nI (t - f) > 6 := nI_lt (a := 6) (by omega) (by omega)
    refine Or.inr ⟨fun s => by omega, ?_⟩
    rw [if_pos gt]
    exact bad 6 0 e_FU rfl (wp_FU (by decide))
-- the token is the name in a row: just where the class has the same code
theorem M_atTok {a1 : Nat} {J : e_I} {N p b : Nat} {D : Nat → Nat} {C : Nat → Int32} (ha : a1 = 87 ∨ a1 = 88) (hN : N ≤ 500) (hm : mT J N D) (hp : p ≤ N) (h0 : tk N D p = 0) (hb : b < 9) (hr : r_name C (J a1) b) : f_X8_isAt a1 ((6 : Int32) * nI b) (nI (tq N D p)) (nI (te N D p)) J = some (if C b = nI (r_code (tw N D p)) then 1 else 0) := by
  obtain ⟨w, hw, hc, row⟩ := hr
  obtain ⟨w1, w2, w3, w4, w5⟩ := tok_word h0
  have eN := (te_le (D := D) hp).2
  have lt : (tw N D p).length = te N D p - tq N D p := wl_len _
  have dv : ∀ k, k < te N D p - tq N D p → D (tq N D p + k) = (tw N D p).getD k 0 + 96 := fun k hk => by
    have a := isL_i.mp (w4 k hk)
    have b : (tw N D p).getD k 0 = D (tq N D p + k) - 96 := wl_get _ k hk
    omega
  have sp : (te N D p - tq N D p = w.length ∧ ∀ k, k < w.length → D (tq N D p + k) = w.getD k 0 + 96) ↔ w = tw N D p := by
    constructor
    · intro ⟨s1, s2⟩
      refine list_eq _ _ (by omega) (fun k hk => ?_)
      have a := s2 k hk
      have b := dv k (by omega)
      omega
    · intro e
      rw [e]
      exact ⟨lt.symm, fun k hk => dv k (by omega)⟩
  have ce : C b = nI (r_code (tw N D p)) ↔ w = tw N D p := by
    rw [hc]
    exact code_eq hw w5
  rcases M_isAt (f := tq N D p) (t := te N D p) ha hN hm (by omega) eN hb hw row with ⟨s, e⟩ | ⟨s, e⟩
  · rw [e, if_pos (ce.mpr (sp.mp s))]
  · rw [e, if_neg (fun n => s (sp.mpr (ce.mp n)))]
def anyN (C : Nat → Int32) (v : Int32) : Nat → Nat → Bool
  | 0, _ => false
  | m + 1, b => if C b = v then true else anyN C v m (b + 1)
theorem C_isName {I : e_I} {cnt : Nat} {v : Int32} (hc : cnt ≤ 9) (h4 : I 1 4 = nI cnt) : f_X6_isName v I = some (if anyN (I 2) v cnt 0 = true then 1 else 0) := by
  have go : ∀ m b n, b + m = cnt → m < n → f_X6_isName_2 I v (fun (_ : Unit) => some 0) (fun (_ : Unit) => some 1) n (nI b) = some (if anyN (I 2) v m b = true then 1 else 0) := by
    intro m
    induction m with
    | zero =>
      intro b n h0 hn
      obtain ⟨n', rfl⟩ : ∃ k, n = k + 1 := ⟨n - 1, by omega⟩
      have h0 : b = cnt := h0
      have ge : nI b ≥ nI cnt := nI_le (by omega) (by omega)
      rw [f_X6_isName_2, h4, if_pos ge]
      rfl
    | succ m ih =>
      intro b n h0 hn
      obtain ⟨n', rfl⟩ : ∃ k, n = k + 1 := ⟨n - 1, by omega⟩
      have ge : ¬ nI b ≥ nI cnt := c_ge (by omega) (by omega)
      have g9 : ¬ nI b ≥ 9 := c_ge (N := 9) (by omega) (by decide)
      have ix : e_ix (nI b) 9 = true := nI_ix (by omega) (by omega)
      rw [f_X6_isName_2, h4, if_neg ge, if_neg g9]
      unfold e_as
      rw [if_pos ix, nI_clamp (n := b) (by omega)]
      by_cases q : I 2 b = v
      · have e : anyN (I 2) v (m + 1) b = true := if_pos q
        rw [if_neg (fun n => n q), e, if_pos rfl]
      · have e : anyN (I 2) v (m + 1) b = anyN (I 2) v m (b + 1) := if_neg q
        rw [if_pos q, let_eq, nI_1 b, e]
        exact ih (b + 1) n' (by omega) (by omega)
  unfold f_X6_isName
  exact go cnt 0 e_FU (by omega) (wp_FU (by omega))
theorem M_r38 {J : e_I} {N p cnt : Nat} {D : Nat → Nat} {C : Nat → Int32} (hN : N ≤ 500) (hm : mT J N D) (hp : p ≤ N) (h0 : tk N D p = 0) (hc : cnt ≤ 9) (ht : TK N D p J) (hr : ∀ b, b < cnt → r_name C (J 88) b) {k78 k66 : e_I → Option (Int32 × e_I)} : ∀ m b n, b + m = cnt → m < n → f_X8_readBatter_38 (nI cnt) k78 k66 n (nI b) J = if anyN C (nI (r_code (tw N D p))) m b = true then k66 J else k78 J := by
  intro m
  induction m with
  | zero =>
    intro b n hb hn
    obtain ⟨n', rfl⟩ : ∃ k, n = k + 1 := ⟨n - 1, by omega⟩
    have hb : b = cnt := hb
    have ge : nI b ≥ nI cnt := nI_le (by omega) (by omega)
    rw [f_X8_readBatter_38, if_pos ge]
    rfl
  | succ m ih =>
    intro b n hb hn
    obtain ⟨n', rfl⟩ : ∃ k, n = k + 1 := ⟨n - 1, by omega⟩
    have ge : ¬ nI b ≥ nI cnt := c_ge (by omega) (by omega)
    rw [f_X8_readBatter_38, if_neg ge, ht.1, ht.2.1, M_atTok (Or.inr rfl) hN hm hp h0 (by omega) (hr b (by omega)), r_b1]
    by_cases q : C b = nI (r_code (tw N D p))
    · have e : anyN C (nI (r_code (tw N D p))) (m + 1) b = true := if_pos q
      have f1 : (if C b = nI (r_code (tw N D p)) then (1 : Int32) else 0) = 1 := if_pos q
      rw [f1, e, if_neg (by decide), if_pos rfl]
    · have e : anyN C (nI (r_code (tw N D p))) (m + 1) b = anyN C (nI (r_code (tw N D p))) m (b + 1) := if_neg q
      have f1 : (if C b = nI (r_code (tw N D p)) then (1 : Int32) else 0) = 0 := if_neg q
      rw [f1, e, if_pos rfl, let_eq, nI_1 b]
      exact ih (b + 1) n' (by omega) (by omega)
theorem M_r80 {N p cnt : Nat} {D : Nat → Nat} (hN : N ≤ 500) (hp : p ≤ N) (hc : cnt < 9) {k131 : e_I → Option (Int32 × e_I)} : ∀ m k n J, k + m = 6 → m < n → mT J N D → TK N D p J → ∃ K, f_X8_readBatter_80 (nI cnt) k131 n (nI k) J = k131 K ∧ fr (fun a i => a = 88 ∧ 6 * cnt + k ≤ i ∧ i < 6 * cnt + 6) J K ∧ ∀ j, k ≤ j → j < 6 → K 88 (6 * cnt + j) = if j < te N D p - tq N D p then nI (D (tq N D p + j)) else 0 := by
  have eN := te_le (D := D) hp
  intro m
  induction m with
  | zero =>
    intro k n J h0 hn hm ht
    obtain ⟨n', rfl⟩ : ∃ k, n = k + 1 := ⟨n - 1, by omega⟩
    have h0 : k = 6 := h0
    subst h0
    exact ⟨J, rfl, fr_rfl, fun j h1 h2 => by omega⟩
  | succ m ih =>
    intro k n J h0 hn hm ht
    obtain ⟨n', rfl⟩ : ∃ k, n = k + 1 := ⟨n - 1, by omega⟩
    have lt : ¬ nI k ≥ 6 := c_ge (N := 6) (by omega) (by decide)
    have s1 : (6 : Int32) * nI cnt + nI k = nI (6 * cnt + k) := by
      have e : (6 : Int32) * nI cnt = nI (6 * cnt) := nI_mul 6 cnt
      rw [e, nI_add]
    have go : ∀ s0 : Int32, s0 = (if k < te N D p - tq N D p then nI (D (tq N D p + k)) else 0) → ∃ K, f_X8_readBatter_124 (nI cnt) (fun v2 I => f_X8_readBatter_80 (nI cnt) k131 n' v2 I) k131 (nI k) s0 (nI (6 * cnt + k)) J = k131 K ∧ fr (fun a i => a = 88 ∧ 6 * cnt + k ≤ i ∧ i < 6 * cnt + 6) J K ∧ ∀ j, k ≤ j → j < 6 → K 88 (6 * cnt + j) = if j < te N D p - tq N D p then nI (D (tq N D p + j)) else 0 := fun s0 hs => by
      have ix : e_ix (nI (6 * cnt + k)) 54 = true := nI_ix (by omega) (by omega)
      obtain ⟨K, e, f1, f2⟩ := ih (k + 1) n' (e_ui J 88 (6 * cnt + k) s0) (by omega) (by omega) (mT_fr (fun i => ui_a (by decide)) hm) ⟨(ui_a (by decide)).trans ht.1, (ui_a (by decide)).trans ht.2.1, (ui_a (by decide)).trans ht.2.2.1, fun z => (ui_a (by decide)).trans (ht.2.2.2 z)⟩
      refine ⟨K, ?_, fun a i z => ?_, fun j h1 h2 => ?_⟩
      · unfold f_X8_readBatter_124 e_as
        rw [if_pos ix, let_eq, let_eq, nI_1 k, nI_clamp (n := 6 * cnt + k) (by omega)]
        exact e
      · rw [f1 a i (fun y => z ⟨y.1, by omega, y.2.2⟩)]
        by_cases y : a = 88
        · subst y
          exact ui_i (fun x => z ⟨rfl, by omega, by omega⟩)
        · exact ui_a y
      · by_cases y : j = k
        · subst y
          rw [f1 88 (6 * cnt + j) (fun x => by omega), ← hs]
          exact ui_s
        · exact f2 j (by omega) h2
    rw [f_X8_readBatter_80, if_neg lt, ht.1, ht.2.1, nI_add, s1]
    by_cases q : k < te N D p - tq N D p
    · have ge : ¬ nI (tq N D p + k) ≥ nI (te N D p) := c_ge (by omega) (by omega)
      have ix : e_ix (nI (tq N D p + k)) 500 = true := nI_ix (by omega) (by omega)
      rw [if_neg ge]
      unfold e_as
      rw [if_pos ix, nI_clamp (n := tq N D p + k) (by omega)]
      refine go _ ?_
      rw [if_pos q, (hm (tq N D p + k) (by omega)).1]
    · have ge : nI (tq N D p + k) ≥ nI (te N D p) := nI_le (by omega) (by omega)
      rw [if_pos ge]
      refine go 0 ?_
      rw [if_neg q]
-- TEXT: class and model read alike: the state of both
theorem and1 (z : Int32) : z &&& 1 = 0 ∨ z &&& 1 = 1 := by
  have h : (z &&& 1).toBitVec.toNat = z.toBitVec.toNat % 2 := by
    rw [Int32.toBitVec_and, BitVec.toNat_and]
    exact Nat.and_one_is_mod _
  rcases Nat.mod_two_eq_zero_or_one z.toBitVec.toNat with e | e
  · left
    apply Int32.toBitVec_inj.mp
    apply BitVec.eq_of_toNat_eq
    rw [h, e]
    rfl
  · right
    apply Int32.toBitVec_inj.mp
    apply BitVec.eq_of_toNat_eq
    rw [h, e]
    rfl
def b1t (U : Int32) (r : Nat) : Prop := ((U >>> (nI r &&& 31)) &&& 1) = 1
theorem b1t_or {U : Int32} {x y : Nat} (hx : x < 9) (hy : y < 9) : b1t (U ||| ((1 : Int32) <<< (nI y &&& 31))) x ↔ (b1t U x ∨ x = y) := by
  unfold b1t
  rw [Int32.shiftRight_or, and_or1, bt_1 x hx y hy]
  by_cases q : x = y
  · rw [if_pos q]
    refine ⟨fun _ => Or.inr q, fun _ => ?_⟩
    rcases and1 (U >>> (nI x &&& 31)) with e | e
    · rw [e]
      decide
    · rw [e]
      decide
  · rw [if_neg q, Int32.or_zero]
    exact ⟨fun h => Or.inl h, fun h => h.resolve_right q⟩
def rlo (r : Nat) : Nat := [1, 2, 0, 0, 1].getD r 0
def rhi (r : Nat) : Nat := [2, 3, 1, 20, 99].getD r 0
def TOLD (I J : e_I) : Prop := ∀ r, r < 5 → (I 7 r = 0 ∧ ¬ b1t (J 83 16) r) ∨ (I 7 r ≠ 0 ∧ b1t (J 83 16) r)
def BAT (I J : e_I) (b : Nat) : Prop := (∃ f : Nat → Nat, (∀ e, e < 6 → I 3 (6 * b + e) = nI (f e) ∧ J 86 (6 + (6 * b + e)) = nI (f e) ∧ f e ≤ 20) ∧ hs f 6 = 20) ∧ J 86 (60 + b) = nI b ∧ r_name (I 2) (J 88) b
def RUL (I J : e_I) : Prop := ∀ r, r < 5 → ∃ v, I 4 r = nI v ∧ J 86 (1 + r) = nI v ∧ rlo r ≤ v ∧ v ≤ rhi r
def SH (cnt : Nat) (I J : e_I) : Prop := (cnt ≤ 9 ∧ I 1 4 = nI cnt ∧ J 86 0 = nI cnt) ∧ TOLD I J ∧ RUL I J ∧ ∀ b, b < cnt → BAT I J b
def ST0 (N : Nat) (D : Nat → Nat) (I J : e_I) : Prop := N ≤ 500 ∧ cT I N D ∧ mT J N D ∧ I 1 9 = nI N ∧ J 83 11 = nI N ∧ keysT I ∧ I 1 13 = 0
def CK (N : Nat) (D : Nat → Nat) (p : Nat) (I : e_I) : Prop := I 1 5 = nI (tq N D p) ∧ I 1 10 = nI (te N D p) ∧ I 1 11 = nI (tk N D p) ∧ (tk N D p = 0 → I 1 12 = nI (r_code (tw N D p))) ∧ (tk N D p = 1 → I 1 12 = nI (tv N D p))
def PS (N : Nat) (D : Nat → Nat) (p cnt : Nat) (I J : e_I) : Prop := ST0 N D I J ∧ SH cnt I J ∧ p ≤ N ∧ I 1 10 = nI p ∧ TK N D p J
def FT (I J : e_I) : Prop := ∃ F, I 1 13 = nI F ∧ J 83 17 = nI F ∧ I 1 5 = J 83 18 ∧ 1 ≤ F ∧ F ≤ 5
def fC (a i : Nat) : Prop := (a = 1 ∧ (i = 4 ∨ i = 5 ∨ (9 ≤ i ∧ i ≤ 13))) ∨ a = 2 ∨ a = 3 ∨ a = 4 ∨ a = 7
def fM (a i : Nat) : Prop := (a = 83 ∧ 11 ≤ i ∧ i ≤ 18) ∨ a = 86 ∨ a = 88
def LN (N : Nat) (D : Nat → Nat) (p : Nat) (I J : e_I) (r : Int32) (I' : e_I) (s : Int32) (J' : e_I) : Prop := fr fC I I' ∧ fr fM J J' ∧ ((r = 1 ∧ s = 1 ∧ ∃ p' cnt', p ≤ p' ∧ PS N D p' cnt' I' J') ∨ (r = 0 ∧ s = 0 ∧ FT I' J'))
theorem LN_fr {N p p1 : Nat} {D : Nat → Nat} {I J I1 J1 I' J' : e_I} {r s : Int32} (h1 : fr fC I I1) (h2 : fr fM J J1) (hp : p ≤ p1) (h : LN N D p1 I1 J1 r I' s J') : LN N D p I J r I' s J' := by
  obtain ⟨a, b, c⟩ := h
  refine ⟨fr_tr h1 a, fr_tr h2 b, ?_⟩
  rcases c with ⟨c1, c2, p', cnt', c3, c4⟩ | c
  · exact Or.inl ⟨c1, c2, p', cnt', by omega, c4⟩
  · exact Or.inr c
theorem sS_fC {a i : Nat} (h : sS a i) : fC a i := Or.inl ⟨h.1, by have := h.2; omega⟩
theorem gS_fM {a i : Nat} (h : gS8 a i) : fM a i := Or.inl ⟨h.1, by have := h.2; omega⟩
theorem ST0_fr {N : Nat} {D : Nat → Nat} {I J I' J' : e_I} (h1 : ∀ i, I' 5 i = I 5 i) (h2 : I' 1 9 = I 1 9) (h3 : ∀ i, I' 6 i = I 6 i) (h4 : I' 1 13 = I 1 13) (g1 : ∀ i, J' 84 i = J 84 i) (g2 : J' 83 11 = J 83 11) (h : ST0 N D I J) : ST0 N D I' J' := by
  obtain ⟨a, b, c, d, e, f, g⟩ := h
  exact ⟨a, cT_fr h1 b, mT_fr g1 c, h2.trans d, g2.trans e, fun i hi => (h3 i).trans (f i hi), h4.trans g⟩
theorem BAT_fr {I J I' J' : e_I} {b : Nat} (h2 : I' 2 b = I 2 b) (h3 : ∀ e, e < 6 → I' 3 (6 * b + e) = I 3 (6 * b + e)) (g6 : ∀ e, e < 6 → J' 86 (6 + (6 * b + e)) = J 86 (6 + (6 * b + e))) (g60 : J' 86 (60 + b) = J 86 (60 + b)) (g88 : ∀ k, k < 6 → J' 88 (6 * b + k) = J 88 (6 * b + k)) (h : BAT I J b) : BAT I' J' b := by
  obtain ⟨⟨f, f1, f2⟩, g, w, w1, w2, w3⟩ := h
  exact ⟨⟨f, fun e he => ⟨(h3 e he).trans (f1 e he).1, (g6 e he).trans (f1 e he).2.1, (f1 e he).2.2⟩, f2⟩, g60.trans g, w, w1, h2.trans w2, fun k hk => (g88 k hk).trans (w3 k hk)⟩
theorem SH_fr {cnt : Nat} {I J I' J' : e_I} (h4 : I' 1 4 = I 1 4) (h7 : ∀ i, I' 7 i = I 7 i) (h4' : ∀ i, I' 4 i = I 4 i) (h2 : ∀ i, I' 2 i = I 2 i) (h3 : ∀ i, I' 3 i = I 3 i) (g16 : J' 83 16 = J 83 16) (g86 : ∀ i, J' 86 i = J 86 i) (g88 : ∀ i, J' 88 i = J 88 i) (h : SH cnt I J) : SH cnt I' J' := by
  obtain ⟨⟨a, b, c⟩, t, r, k⟩ := h
  refine ⟨⟨a, h4.trans b, (g86 0).trans c⟩, fun r hr => ?_, fun i hi => ?_, fun b hb => BAT_fr (h2 b) (fun e _ => h3 _) (fun e _ => g86 _) (g86 _) (fun k _ => g88 _) (k b hb)⟩
  · rw [h7, g16]
    exact t r hr
  · rw [h4', g86]
    exact r i hi
theorem ST0_s {N : Nat} {D : Nat → Nat} {I J I' J' : e_I} (h : fr sS I I') (g : fr gS8 J J') (k : ST0 N D I J) : ST0 N D I' J' := ST0_fr (fun i => h 5 i (fun z => by cases z.1)) (h 1 9 (fun z => by have := z.2; omega)) (fun i => h 6 i (fun z => by cases z.1)) (h 1 13 (fun z => by have := z.2; omega)) (fun i => g 84 i (fun z => by cases z.1)) (g 83 11 (fun z => by have := z.2; omega)) k
theorem SH_s {cnt : Nat} {I J I' J' : e_I} (h : fr sS I I') (g : fr gS8 J J') (k : SH cnt I J) : SH cnt I' J' := SH_fr (h 1 4 (fun z => by have := z.2; omega)) (fun i => h 7 i (fun z => by cases z.1)) (fun i => h 4 i (fun z => by cases z.1)) (fun i => h 2 i (fun z => by cases z.1)) (fun i => h 3 i (fun z => by cases z.1)) (g 83 16 (fun z => by have := z.2; omega)) (fun i => g 86 i (fun z => by cases z.1)) (fun i => g 88 i (fun z => by cases z.1)) k
theorem st_C {N p : Nat} {D : Nat → Nat} {I J : e_I} (k : ST0 N D I J) (hp : p ≤ N) (h10 : I 1 10 = nI p) : ∃ I', f_X6_step I = some I' ∧ fr sS I I' ∧ CK N D p I' := by
  obtain ⟨I', e, h⟩ := C_step k.1 hp k.2.1 h10 k.2.2.2.1
  exact ⟨I', e, h⟩
theorem st_M {N p : Nat} {D : Nat → Nat} {I J : e_I} (k : ST0 N D I J) (hp : p ≤ N) (h13 : J 83 13 = nI p) : ∃ J', f_X8_goesOn J = some J' ∧ fr gS8 J J' ∧ TK N D p J' := by
  obtain ⟨J', e, h⟩ := M_goesOn k.1 hp k.2.2.1 h13 k.2.2.2.2.1
  exact ⟨J', e, h⟩
theorem tv_le {N p : Nat} {D : Nat → Nat} (h1 : tk N D p = 1) : tv N D p ≤ 99 := by
  unfold tk at h1
  by_cases hq : tq N D p < N
  · rw [if_pos hq] at h1
    by_cases l : isL (D (tq N D p)) = true
    · rw [if_pos l] at h1
      split at h1 <;> omega
    · rw [if_neg l] at h1
      by_cases d : isD (D (tq N D p)) = true
      · rw [if_pos d] at h1
        have ke : te N D p = rnT D isD (N - tq N D p) (tq N D p) := by
          unfold te
          rw [if_pos hq, if_neg l, if_pos d]
        have l2 : te N D p - tq N D p ≤ 2 := by
          by_cases w : te N D p - tq N D p ≤ 2
          · exact w
          · rw [if_neg w] at h1
            omega
        have all : ∀ k, k < te N D p - tq N D p → isD (D (tq N D p + k)) = true := fun k hk => rnT_in (N - tq N D p) (tq N D p) _ (by omega) (by rw [← ke]; omega)
        have nvl : ∀ n, n ≤ 2 → (∀ k, k < n → isD (D (tq N D p + k)) = true) → nv D (tq N D p) n ≤ 99 ∧ (n ≤ 1 → nv D (tq N D p) n ≤ 9) ∧ (n = 0 → nv D (tq N D p) n = 0) := by
          intro n
          induction n with
          | zero => exact fun _ _ => ⟨Nat.zero_le _, fun _ => Nat.zero_le _, fun _ => rfl⟩
          | succ n ih =>
            intro hn ha
            have a := ih (by omega) (fun k hk => ha k (by omega))
            have b := isD_i.mp (ha n (by omega))
            have e : nv D (tq N D p) (n + 1) = nv D (tq N D p) n * 10 + (D (tq N D p + n) - 48) := rfl
            rw [e]
            refine ⟨?_, fun z => ?_, fun z => by omega⟩
            · have := a.2.1 (by omega)
              omega
            · have := a.2.2 (by omega)
              omega
        exact (nvl _ l2 all).1
      · rw [if_neg d] at h1
        split at h1 <;> omega
  · rw [if_neg hq] at h1
    omega
-- both blame the same
theorem FT_of {I J : e_I} {q F : Nat} {FI : Int32} (h5 : I 1 5 = nI q) (h12 : J 83 12 = nI q) (hF : 1 ≤ F ∧ F ≤ 5) (e : FI = nI F) : FT (e_ui I 1 13 FI) (e_ui (e_ui J 83 17 FI) 83 18 (e_ui J 83 17 FI 83 12)) := by
  refine ⟨F, ui_s.trans e, (ui_i (by decide)).trans (ui_s.trans e), ?_, hF.1, hF.2⟩
  have a : e_ui I 1 13 FI 1 5 = I 1 5 := ui_i (by decide)
  have b : e_ui (e_ui J 83 17 FI) 83 18 (e_ui J 83 17 FI 83 12) 83 18 = J 83 12 := ui_s.trans (ui_i (by decide))
  rw [a, b, h5, h12]
theorem fr_bl {I : e_I} {FI : Int32} : fr fC I (e_ui I 1 13 FI) := fr_ui (Or.inl ⟨rfl, by omega⟩)
theorem fr_er {J : e_I} {FI x : Int32} : fr fM J (e_ui (e_ui J 83 17 FI) 83 18 x) := fr_tr (fr_ui (Or.inl ⟨rfl, by omega, by omega⟩)) (fr_ui (Or.inl ⟨rfl, by omega, by omega⟩))
theorem bl_eq {I : e_I} {FI : Int32} : f_X6_blame FI I = some (0, e_ui I 1 13 FI) := rfl
theorem er_eq {J : e_I} {FI : Int32} : f_X8_errs FI J = some (0, e_ui (e_ui J 83 17 FI) 83 18 (e_ui J 83 17 FI 83 12)) := rfl
theorem LN_bad {N p q F : Nat} {D : Nat → Nat} {I J I1 J1 : e_I} {FI : Int32} (h1 : fr fC I I1) (h2 : fr fM J J1) (h5 : I1 1 5 = nI q) (h12 : J1 83 12 = nI q) (hF : 1 ≤ F ∧ F ≤ 5) (e : FI = nI F) : LN N D p I J 0 (e_ui I1 1 13 FI) 0 (e_ui (e_ui J1 83 17 FI) 83 18 (e_ui J1 83 17 FI 83 12)) := ⟨fr_tr h1 fr_bl, fr_tr h2 fr_er, Or.inr ⟨rfl, rfl, FT_of h5 h12 hF e⟩⟩
theorem as_0 {τ : Type} {x : Option τ} : e_as ((0 : Int32) = 0 ∨ (0 : Int32) = 1) x = x := if_pos (Or.inl rfl)
theorem as_1 {τ : Type} {x : Option τ} : e_as ((1 : Int32) = 0 ∨ (1 : Int32) = 1) x = x := if_pos (Or.inr rfl)
