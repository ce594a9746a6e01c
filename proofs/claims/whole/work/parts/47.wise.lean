-- THE CLASS chooses
theorem m1_toInt : (-1 : Int64).toInt = -1 := by decide
theorem m20_toInt : (-20 : Int64).toInt = -20 := by decide
theorem lN_m1 {x : Nat} (h : x < 2 ^ 63) : (-1 : Int64) < lN x := by
  rw [Int64.lt_iff_toInt_lt, lN_toInt' h, m1_toInt]
  omega
theorem lN_m20 {x : Nat} (h : x < 2 ^ 63) : (-20 : Int64) < lN x := by
  rw [Int64.lt_iff_toInt_lt, lN_toInt' h, m20_toInt]
  omega
theorem lg_lt_cmp {x y : Int64} (h : x < y) : lg_cmp x y ≤ 0 := (lg_cmp_le x y).mpr (Int64.le_of_lt h)
def c_ctx (I : e_I) (L : e_L) (s d f u j : Nat) (V sh : Nat → Nat) : Prop := (RV s d f ∧ c_T I s d f) ∧ c_any I false ∧ c_sh I sh ∧ L 16 j = lN u ∧ c_R L j V ∧ j ≤ 5
theorem C_hit {I : e_I} {L : e_L} {s d f u j st : Nat} {V sh : Nat → Nat} (h : c_ctx I L s d f u j V sh) (hs1 : st < 24) : f_X1_hitMean (nI j) (nI st) I L = some (lN (sH s d f false u V sh st)) := C_hitMean h.1.1 h.1.2 h.2.1 h.2.2.1 h.2.2.2.1 h.2.2.2.2.1 h.2.2.2.2.2 hs1
theorem C_bunt {I : e_I} {L : e_L} {s d f u j st : Nat} {V sh : Nat → Nat} (h : c_ctx I L s d f u j V sh) (hs1 : st < 24) : f_X1_buntMean (nI j) (nI st) I L = some (if mC 6 st = true then lN (sB s d f u V st) else -1) := by
  obtain ⟨⟨hr, hT⟩, ha, hh, hu, hV, hj⟩ := h
  have b6 : f_X2_behind 6 (nI st) I = some (if mC 6 st then nI (mB s d f 6 st) else -1) := c_behind (e := 6) hT (by decide) hs1
  have r6 : f_X2_runsBy 6 (nI st) I = some (if mC 6 st then nI (mR s d f 6 st) else 0) := c_runsBy (e := 6) hT (by decide) hs1
  have hb := mB_le hr (show 6 < 9 by decide) hs1
  unfold f_X1_buntMean f_X1_buntMean_42
  rw [b6, r_b1]
  by_cases q : mC 6 st = true
  · rw [if_pos q, if_pos (nI_m1 (by omega)), r6, r_b1, if_pos q, C_gain ha hu hV hj hb (mR_le hr (by decide) hs1), r_b1, if_pos q, l20, lN_mul]
    rfl
  · rw [if_neg q, if_neg (fun n => n rfl), if_neg q]
theorem C_swing {I : e_I} {L : e_L} {s d f u j st : Nat} {V sh : Nat → Nat} (h : c_ctx I L s d f u j V sh) (hb : M_b s d f u V sh) (hs1 : st ≤ 24) : f_X1_swingMean (nI j) (nI st) I L = some (lN (sW s d f u V sh st)) := by
  unfold f_X1_swingMean f_X1_swingMean_25
  by_cases z : st = 24
  · subst z
    rw [if_neg (fun n => n rfl)]
    rfl
  · have hst : st < 24 := by omega
    obtain ⟨b1, b2⟩ := hb st hst
    rw [if_pos (show nI st ≠ 24 from nI_n (b := 24) z (by omega) (by decide)), C_hit h hst, r_b1, C_bunt h hst, r_b1, sW_in hst]
    by_cases q : mC 6 st = true
    · rw [if_pos q, if_pos q, lN_max (by omega) (by omega)]
    · rw [if_neg q, if_neg q]
      unfold e_maxl
      rw [if_pos (lN_m1 (by omega))]
theorem C_can7 {I : e_I} {s d f st : Nat} (hr : RV s d f) (hT : c_T I s d f) (hs1 : st < 24) : f_X2_can 7 (nI st) I = some (if mC 7 st then 1 else 0) := c_can_at (e := 7) hr hT (by decide) hs1
theorem mC_78 : ∀ st, st < 24 → mC 8 st = mC 7 st := by decide +kernel
theorem C_b7 {I : e_I} {s d f st : Nat} (hT : c_T I s d f) (hs1 : st < 24) (q : mC 7 st = true) : f_X2_behind 7 (nI st) I = some (nI (mB s d f 7 st)) := by
  have k := c_behind (e := 7) hT (by decide) hs1
  rwa [if_pos q] at k
theorem C_b8 {I : e_I} {s d f st : Nat} (hT : c_T I s d f) (hs1 : st < 24) (q : mC 7 st = true) : f_X2_behind 8 (nI st) I = some (nI (mB s d f 8 st)) := by
  have k := c_behind (e := 8) hT (by decide) hs1
  rwa [if_pos (by rw [mC_78 st hs1]; exact q)] at k
theorem C_steal {I : e_I} {sl a b : Nat} (h6 : I 11 6 = nI sl) (hsl : sl ≤ 20) : f_X1_stealMean (lN a) (lN b) I = some (lN (sl * a + (20 - sl) * b)) := by
  unfold f_X1_stealMean
  rw [h6, n20, nI_sub hsl, nI_l (by omega), nI_l (by omega), lN_mul, lN_mul, lN_add]
def c_look (I : e_I) (j sl : Nat) : Prop := I 11 7 = nI j ∧ I 11 6 = nI sl ∧ sl ≤ 20
theorem C_mb0 {I : e_I} {L : e_L} {s d f u j sl st : Nat} {V sh : Nat → Nat} (h : c_ctx I L s d f u j V sh) (hl : c_look I j sl) (hs1 : st < 24) : f_X1_meanBy 0 (nI st) I L = some (lN (20 * sH s d f false u V sh st)) := by
  unfold f_X1_meanBy
  rw [if_neg (fun n => n rfl), hl.1, C_hit h hs1, r_b1, l20, lN_mul]
theorem C_mb1 {I : e_I} {L : e_L} {s d f u j sl st : Nat} {V sh : Nat → Nat} (h : c_ctx I L s d f u j V sh) (hl : c_look I j sl) (hs1 : st < 24) : f_X1_meanBy 1 (nI st) I L = some (if mC 6 st = true then lN (20 * sB s d f u V st) else -20) := by
  unfold f_X1_meanBy
  rw [if_pos (by decide), if_neg (fun n => n rfl), hl.1, C_bunt h hs1, r_b1]
  by_cases q : mC 6 st = true
  · rw [if_pos q, if_pos q, l20, lN_mul]
  · rw [if_neg q, if_neg q]
    rfl
theorem C_mb2 {I : e_I} {L : e_L} {s d f u j sl st : Nat} {V sh : Nat → Nat} (h : c_ctx I L s d f u j V sh) (hb : M_b s d f u V sh) (hl : c_look I j sl) (hs1 : st < 24) : f_X1_meanBy 2 (nI st) I L = some (if mC 7 st = true then lN (sT s d f u sl V sh st) else -1) := by
  obtain ⟨hr, hT⟩ := h.1
  unfold f_X1_meanBy
  rw [if_pos (by decide), if_pos (by decide), C_can7 hr hT hs1, r_b1]
  by_cases q : mC 7 st = true
  · rw [if_pos q, if_pos (by decide), C_b7 hT hs1 q, r_b1, hl.1, C_swing h hb (mB_le hr (by decide) hs1), r_b1, C_b8 hT hs1 q, r_b1, C_swing h hb (mB_le hr (by decide) hs1), r_b1, C_steal hl.2.1 hl.2.2, r_b1, if_pos q]
    rfl
  · rw [if_neg q, if_neg (fun n => n rfl), if_neg q]
theorem C_swingIn {I : e_I} {L : e_L} {s d f u j sl st : Nat} {V sh : Nat → Nat} (h : c_ctx I L s d f u j V sh) (hb : M_b s d f u V sh) (hl : c_look I j sl) (hs1 : st < 24) : f_X1_swingIn (nI st) I L = some (nI (sC1 s d f u V sh st)) := by
  obtain ⟨b1, b2⟩ := hb st hs1
  unfold f_X1_swingIn f_X1_swingIn_21 sC1
  rw [C_mb1 h hl hs1, r_b1, C_mb0 h hl hs1, r_b1]
  by_cases q : mC 6 st = true
  · rw [if_pos q]
    by_cases z : sH s d f false u V sh st < sB s d f u V st
    · rw [if_neg (fun n => by have := (lN_cmp (by omega) (by omega)).mp n; omega), if_pos ⟨q, z⟩]
      rfl
    · rw [if_pos ((lN_cmp (by omega) (by omega)).mpr (by omega)), if_neg (fun n => z n.2)]
      rfl
  · rw [if_neg q, if_pos (lg_lt_cmp (lN_m20 (by omega))), if_neg (fun n => q n.1)]
    rfl
theorem C_mbS {I : e_I} {L : e_L} {s d f u j sl st : Nat} {V sh : Nat → Nat} (h : c_ctx I L s d f u j V sh) (hl : c_look I j sl) (hs1 : st < 24) : f_X1_meanBy (nI (sC1 s d f u V sh st)) (nI st) I L = some (lN (20 * sW s d f u V sh st)) := by
  rw [sW_in hs1]
  unfold sC1
  by_cases q : mC 6 st = true
  · rw [if_pos q]
    by_cases z : sH s d f false u V sh st < sB s d f u V st
    · rw [if_pos ⟨q, z⟩, show f_X1_meanBy (nI 1) (nI st) I L = _ from C_mb1 h hl hs1, if_pos q, Nat.max_eq_right (by omega)]
    · rw [if_neg (fun n => z n.2), show f_X1_meanBy (nI 0) (nI st) I L = _ from C_mb0 h hl hs1, Nat.max_eq_left (by omega)]
  · rw [if_neg q, if_neg (fun n => q n.1), show f_X1_meanBy (nI 0) (nI st) I L = _ from C_mb0 h hl hs1]
theorem C_choiceIn {I : e_I} {L : e_L} {s d f u j sl st : Nat} {V sh : Nat → Nat} (h : c_ctx I L s d f u j V sh) (hb : M_b s d f u V sh) (hT : sT s d f u sl V sh st < 2 ^ 63) (hl : c_look I j sl) (hs1 : st < 24) : f_X1_choiceIn (nI st) I L = some (nI (sC s d f u sl V sh st)) := by
  have wl := sW_lt hb (show st ≤ 24 by omega)
  unfold f_X1_choiceIn f_X1_choiceIn_27 sC
  rw [C_swingIn h hb hl hs1, r_b1, C_mb2 h hb hl hs1, r_b1, C_mbS h hl hs1, r_b1]
  by_cases q : mC 7 st = true
  · rw [if_pos q]
    by_cases z : 20 * sW s d f u V sh st < sT s d f u sl V sh st
    · rw [if_neg (fun n => by have := (lN_cmp (by omega) (by omega)).mp n; omega), if_pos ⟨q, z⟩]
      rfl
    · rw [if_pos ((lN_cmp (by omega) (by omega)).mpr (by omega)), if_neg (fun n => z n.2)]
  · rw [if_neg q, if_pos (lg_lt_cmp (lN_m1 (by omega))), if_neg (fun n => q n.1)]
theorem C_mbC {I : e_I} {L : e_L} {s d f u j sl st : Nat} {V sh : Nat → Nat} (h : c_ctx I L s d f u j V sh) (hb : M_b s d f u V sh) (hl : c_look I j sl) (hs1 : st < 24) : f_X1_meanBy (nI (sC s d f u sl V sh st)) (nI st) I L = some (lN (sV s d f u sl V sh st)) := by
  unfold sC sV
  by_cases q : mC 7 st = true
  · rw [if_pos q]
    by_cases z : 20 * sW s d f u V sh st < sT s d f u sl V sh st
    · rw [if_pos ⟨q, z⟩, show f_X1_meanBy (nI 2) (nI st) I L = _ from C_mb2 h hb hl hs1, if_pos q, Nat.max_eq_right (by omega)]
    · rw [if_neg (fun n => z n.2), C_mbS h hl hs1, Nat.max_eq_left (by omega)]
  · rw [if_neg q, if_neg (fun n => q n.1), C_mbS h hl hs1]
-- a row by wise choices
def c_SQ (j a i : Nat) : Prop := (a = 15 ∧ j * 25 ≤ i ∧ i < j * 25 + 24) ∨ (a = 18 ∧ i < 24)
theorem C_swingAt {L : e_L} {q x : Nat} (h : L 18 q = lN x) (hq : q ≤ 24) : f_X1_swingAt (nI q) L = some (lN x) := by
  unfold f_X1_swingAt f_X1_swingAt_20 e_as
  rw [if_neg (nI_pos (by omega)), if_neg (show ¬ nI q > 24 from nI_nlt (a := 24) hq (by decide)), if_pos (nI_ix (by omega) (by omega)), nI_clamp (by omega), h]
theorem C_fillWise {I : e_I} {L : e_L} {s d f u j sl : Nat} {V sh : Nat → Nat} (h : c_ctx I L s d f u (j - 1) V sh) (hb : M_b s d f u V sh) (hTb : ∀ st, st < 24 → sT s d f u sl V sh st < 2 ^ 63) (h6 : I 11 6 = nI sl) (hsl : sl ≤ 20) (hz : L 18 24 = lN 0) (h1 : 1 ≤ j) (hj : j ≤ 5) : wp (f_X1_fillWiseRow (nI j) I L) (fun M => frL (c_SQ j) L M ∧ ∀ st, st < 24 → M 15 (j * 25 + st) = lN (sV s d f u sl V sh st)) := by
  obtain ⟨hr, hT⟩ := h.1
  unfold f_X1_fillWiseRow
  refine wp_e1 (r_within _ _ _) ?_
  rw [if_pos (show (1 : Int32) ≤ nI j ∧ nI j ≤ 5 from ⟨nI_le (a := 1) h1 (by omega), nI_le (b := 5) hj (by decide)⟩)]
  refine wp_t (by decide) ?_
  refine wp_loop (F := fun n st M => f_X1_fillWiseRow_12 I (nI j) (fun (L_3 : e_L) => f_X1_fillWiseRow_40 I (nI j) (fun (L_4 : e_L) => some L_4) e_FU 0 L_3) n (nI st) M) 24 (fun st M => frL (c_SQ j) L M ∧ (∀ i, M 15 i = L 15 i) ∧ ∀ i, i < st → M 18 i = lN (sW s d f u V sh i)) ?_ ?_ e_FU 0 L (by omega) (wp_FU (by decide)) ⟨frL_rfl, fun _ => rfl, fun _ h => by omega⟩
  · intro n M hP
    obtain ⟨p1, p2, p3⟩ := hP
    have sw : ∀ q, q ≤ 24 → M 18 q = lN (sW s d f u V sh q) := fun q hq => by
      by_cases z : q = 24
      · subst z
        rw [p1 18 24 (fun z => by rcases z with z | z <;> omega), hz]
        rfl
      · exact p3 q (by omega)
    show wp (f_X1_fillWiseRow_12 _ _ _ (n + 1) (nI 24) M) _
    rw [f_X1_fillWiseRow_12]
    refine wp_t (by decide) ?_
    refine wp_loop (F := fun n st M => f_X1_fillWiseRow_40 I (nI j) (fun (L_4 : e_L) => some L_4) n (nI st) M) 24 (fun st N => frL (c_SQ j) L N ∧ (∀ i, N 18 i = M 18 i) ∧ ∀ i, i < st → N 15 (j * 25 + i) = lN (sV s d f u sl V sh i)) ?_ ?_ e_FU 0 M (by omega) (wp_FU (by decide)) ⟨p1, fun _ => rfl, fun _ h => by omega⟩
    · intro n N hP
      show wp (f_X1_fillWiseRow_40 _ _ _ (n + 1) (nI 24) N) _
      rw [f_X1_fillWiseRow_40]
      exact wp_t (by decide) (wp_some ⟨hP.1, hP.2.2⟩)
    · intro n st N hst hP ih
      obtain ⟨n1, n2, n3⟩ := hP
      show wp (f_X1_fillWiseRow_40 _ _ _ (n + 1) (nI st) N) _
      rw [f_X1_fillWiseRow_40]
      have swN : ∀ q, q ≤ 24 → N 18 q = lN (sW s d f u V sh q) := fun q hq => by rw [n2]; exact sw q hq
      have ix : nI j * 25 + nI st = nI (j * 25 + st) := by rw [n25, nI_mul, nI_add]
      have wl := sW_lt hb (show st ≤ 24 by omega)
      have tl := hTb st hst
      have fin : ∀ x, x = sV s d f u sl V sh st → wp (f_X1_fillWiseRow_115 I (nI j) (fun v2 L => f_X1_fillWiseRow_40 I (nI j) (fun (L_4 : e_L) => some L_4) n v2 L) (fun (L_4 : e_L) => some L_4) (nI st) (lN x) N) (fun M => frL (c_SQ j) L M ∧ ∀ st, st < 24 → M 15 (j * 25 + st) = lN (sV s d f u sl V sh st)) := fun x hx => by
        unfold f_X1_fillWiseRow_115
        rw [ix]
        refine wp_as (nI_ix (by omega) (by omega)) (wp_let (wp_let ?_))
        rw [nI_1 st, nI_clamp (by omega)]
        refine ih (e_ul N 15 (j * 25 + st) (lN x)) ⟨frL_tr n1 (frL_ul (Or.inl ⟨rfl, by omega, by omega⟩)), fun i => (ul_a (show (18 : Nat) ≠ 15 by decide)).trans (n2 i), fun i hi => ?_⟩
        by_cases q : i = st
        · subst q
          rw [ul_s, hx]
        · rw [ul_i (show j * 25 + i ≠ j * 25 + st by omega), n3 i (by omega)]
      refine wp_f (c_ge (N := 24) hst (by decide)) (wp_as (nI_ix (by omega) (by omega)) (wp_let ?_))
      rw [nI_clamp (by omega), swN st (by omega)]
      refine wp_e1 (C_can7 hr hT hst) ?_
      by_cases q : mC 7 st = true
      · rw [if_pos q]
        refine wp_f (by decide) (wp_e1 (C_b7 hT hst q) (wp_e1 (C_swingAt (swN _ (mB_le hr (by decide) hst)) (mB_le hr (by decide) hst)) (wp_e1 (C_b8 hT hst q) (wp_e1 (C_swingAt (swN _ (mB_le hr (by decide) hst)) (mB_le hr (by decide) hst)) (wp_e1 (C_steal h6 hsl) (wp_let ?_))))))
        have e1 : (20 : Int64) * lN (sW s d f u V sh st) = lN (20 * sW s d f u V sh st) := by rw [l20, lN_mul]
        have e2 : sl * sW s d f u V sh (mB s d f 7 st) + (20 - sl) * sW s d f u V sh (mB s d f 8 st) = sT s d f u sl V sh st := rfl
        rw [e1, e2, lN_max (by omega) (by omega)]
        refine fin _ ?_
        unfold sV
        rw [if_pos q]
      · rw [if_neg q]
        refine wp_t rfl ?_
        have e1 : (20 : Int64) * lN (sW s d f u V sh st) = lN (20 * sW s d f u V sh st) := by rw [l20, lN_mul]
        rw [e1]
        refine fin _ ?_
        unfold sV
        rw [if_neg q]
  · intro n st M hst hP ih
    obtain ⟨p1, p2, p3⟩ := hP
    show wp (f_X1_fillWiseRow_12 _ _ _ (n + 1) (nI st) M) _
    rw [f_X1_fillWiseRow_12]
    have e1 : nI j - 1 = nI (j - 1) := nI_sub (b := 1) h1
    rw [e1]
    have hM : c_ctx I M s d f u (j - 1) V sh := ⟨h.1, h.2.1, h.2.2.1, by rw [p1 16 _ (fun z => by rcases z with z | z <;> omega)]; exact h.2.2.2.1, fun q hq => by rw [p2]; exact h.2.2.2.2.1 q hq, h.2.2.2.2.2⟩
    refine wp_f (c_ge (N := 24) hst (by decide)) (wp_e1 (C_swing hM hb (by omega)) (wp_as (nI_ix (by omega) (by omega)) (wp_let (wp_let ?_))))
    rw [nI_1 st, nI_clamp (by omega)]
    refine ih (e_ul M 18 st (lN (sW s d f u V sh st))) ⟨frL_tr p1 (frL_ul (Or.inr ⟨rfl, hst⟩)), fun i => (ul_a (show (15 : Nat) ≠ 18 by decide)).trans (p2 i), fun i hi => ?_⟩
    by_cases q : i = st
    · subst q
      rw [ul_s]
    · rw [ul_i q, p3 i (by omega)]
theorem C_bnd {s d f c sl ti k fi fc j b0 f0 : Nat} {CH : Nat → Nat → Nat} {O : Nat → Nat} (hn : NV c s d f sl ti CH) {sl2 : Nat} (hsl2 : sl2 ≤ 20) (hO : ∀ i, i < c → O i < c) (hj : j ≤ 4) (hb : b0 < c) : M_b s d f (400 ^ j) (LV s d f c sl2 ti 2 k fi fc CH O j) (sh1 ti CH b0 f0) ∧ ∀ st, st < 24 → sT s d f (400 ^ j) sl2 (LV s d f c sl2 ti 2 k fi fc CH O j) (sh1 ti CH b0 f0) st < 2 ^ 63 := by
  have k1 := M_bnd (s := s) (d := d) (f := f) (sl := sl2) (ti := ti) (kd := 2) (k := k) (fi := fi) (fc := fc) (j := j) (f0 := f0) ⟨hn.1, hn.2.1, hsl2, hn.2.2.2.2⟩ hO hj hb
  rw [sSh_1 (by decide)] at k1
  exact k1
-- all rows but the first batter's
def c_laid (s d f c sl ti k fi fc b : Nat) (CH : Nat → Nat → Nat) (O : Nat → Nat) (J : e_I) (M : e_L) : Prop := c_ctx J M s d f (400 ^ (k - 1)) (k - 1) (LV s d f c sl ti 2 k fi fc CH O (k - 1)) (sh1 ti CH b fc) ∧ c_look J (k - 1) sl ∧ c_U M 400
theorem C_lookAhead {I : e_I} {L : e_L} {g c s d f sl0 sl ti k fi fc b : Nat} {CH : Nat → Nat → Nat} {O : Nat → Nat} (hg : 23 ≤ g) (hv : CV I g c s d f sl0 ti CH O) (hn : NV c s d f sl0 ti CH) (hsl : sl ≤ 20) (hT : c_T I s d f) (h11 : I 11 5 = 0) (hz : c_Z L) (h4 : I g 4 = nI b) (h5 : I g 5 = nI fc) (hfi : fi < c) (hb : O fi = b) (hinj : ∀ i, i < fi → O i ≠ b) (h1 : 1 ≤ k) (hk : k ≤ 5) (hfc : fc < 100000) : wp (f_X1_lookAhead g (nI k) (nI sl) I L) (fun p => fr c_S11 I p.1 ∧ frL c_SL L p.2 ∧ c_Z p.2 ∧ p.1 11 5 = 0 ∧ c_laid s d f c sl ti k fi fc b CH O p.1 p.2) := by
  obtain ⟨⟨c0, c9⟩, hr, hsl0, ht, h20⟩ := id hn
  have hbc : b < c := by rw [← hb]; exact (hv.2.2.2 fi hfi).2
  have hO2 : ∀ i, i < c → O i < c := fun i hi => (hv.2.2.2 i hi).2
  unfold f_X1_lookAhead
  refine wp_c1 (C_scaleBy (sc := 400)) (fun M1 hM1 => wp_let ?_)
  have z1 : c_Z M1 := ⟨fun q hq => by rw [hM1.1 15 q (show ¬ (15 : Nat) = 16 by decide)]; exact hz.1 q hq, fun j hj => by rw [hM1.1 15 _ (show ¬ (15 : Nat) = 16 by decide)]; exact hz.2.1 j hj, by rw [hM1.1 18 _ (show ¬ (18 : Nat) = 16 by decide)]; exact hz.2.2⟩
  have f0 : fr c_S11 I (e_ui I 11 6 (nI sl)) := fr_ui (Or.inr rfl)
  have g4 : e_ui I 11 6 (nI sl) g 4 = nI b := by rw [ui_a (show g ≠ 11 by omega)]; exact h4
  rw [g4]
  refine wp_e1 (C_placeOf (c_CV17 hg f0 hv) c9 hfi hb (by omega) hinj) ?_
  refine wp_loop (F := fun n j (p : e_I × e_L) => f_X1_lookAhead_25 g (nI k) (nI fi) (fun (I_4 : e_I) (L_5 : e_L) =>
    e_b1 (f_X1_sendUp g (I_4 g 4) (I_4 g 5) I_4) (fun (I_6 : e_I) =>
    e_let (e_ui I_6 11 7 (nI k - 1)) (fun (I_7 : e_I) =>
    some (I_7, L_5)))) n (nI j) p.1 p.2) k (fun j p => 1 ≤ j ∧ (fr c_S11 I p.1 ∧ p.1 11 5 = 0 ∧ p.1 11 6 = nI sl) ∧ frL c_SL L p.2 ∧ c_U p.2 400 ∧ c_Z p.2 ∧ c_lev p.2 j (LV s d f c sl ti 2 k fi fc CH O)) ?_ ?_ e_FU 1 (e_ui I 11 6 (nI sl), M1) (by omega) (wp_FU (by omega)) ⟨Nat.le_refl _, ⟨f0, (ui_i (I := I) (a := 11) (i := 6) (b := 11) (x := nI sl) (show (5 : Nat) ≠ 6 by decide)).trans h11, ui_s (I := I) (a := 11) (i := 6) (x := nI sl)⟩, frL_mono (fun a i z => Or.inr (Or.inl z)) hM1.1, hM1.2, z1, fun i hi q hq => ?_⟩
  · intro n p hP
    obtain ⟨_, ⟨p2, q5, q6⟩, p3, p4, p5, p6⟩ := hP
    show wp (f_X1_lookAhead_25 g _ _ _ (n + 1) (nI k) p.1 p.2) _
    rw [f_X1_lookAhead_25]
    have e1 : nI k - 1 = nI (k - 1) := nI_sub (b := 1) h1
    have hvp := c_CV17 hg p2 hv
    have x4 : p.1 g 4 = nI b := by rw [p2 g 4 (fun z => by unfold c_S11 at z; omega)]; exact h4
    have x5 : p.1 g 5 = nI fc := by rw [p2 g 5 (fun z => by unfold c_S11 at z; omega)]; exact h5
    rw [e1, x4, x5]
    refine wp_t (Int32.le_refl _) (wp_c1 (C_sendUp hg hvp hn hbc (by omega)) (fun J hJ => wp_let (wp_some ?_)))
    have fJ : fr c_S11 I J := fr_tr p2 (c_17_11 hJ.1)
    have f7 : fr c_S11 I (e_ui J 11 7 (nI (k - 1))) := fr_tr fJ (fr_ui (Or.inr rfl))
    have j5 : J 11 5 = 0 := by rw [hJ.1 11 5 (fun z => by unfold c_S17 at z; omega)]; exact q5
    have j6 : J 11 6 = nI sl := by rw [hJ.1 11 6 (fun z => by unfold c_S17 at z; omega)]; exact q6
    have k5 : e_ui J 11 7 (nI (k - 1)) 11 5 = 0 := (ui_i (show (5 : Nat) ≠ 7 by decide)).trans j5
    have k6 : e_ui J 11 7 (nI (k - 1)) 11 6 = nI sl := (ui_i (show (6 : Nat) ≠ 7 by decide)).trans j6
    refine ⟨f7, p3, p5, k5, ⟨⟨hr, c_T17 f7 hT⟩, k5, fun e he => ⟨?_, sh1_lt hn hbc he⟩, p4 (k - 1) (by omega), p6 (k - 1) (by omega), by omega⟩, ⟨ui_s (I := J) (a := 11) (i := 7) (x := nI (k - 1)), k6, hsl⟩, p4⟩
    show e_ui J 11 7 (nI (k - 1)) 17 e = _
    rw [ui_a (show (17 : Nat) ≠ 11 by decide)]
    exact hJ.2 e he
  · intro n j p hj hP ih
    obtain ⟨p1, ⟨p2, q5, q6⟩, p3, p4, p5, p6⟩ := hP
    show wp (f_X1_lookAhead_25 g _ _ _ (n + 1) (nI j) p.1 p.2) _
    rw [f_X1_lookAhead_25]
    have hvp := c_CV17 hg p2 hv
    have x5 : p.1 g 5 = nI fc := by rw [p2 g 5 (fun z => by unfold c_S11 at z; omega)]; exact h5
    have x1 : nI fi + nI k - nI j = nI (fi + (k - j)) := by rw [nI_add, nI_sub (by omega)]; congr 1; omega
    have x2 : nI fc + nI k - nI j = nI (fc + (k - j)) := by rw [nI_add, nI_sub (by omega)]; congr 1; omega
    have hm : (fi + (k - j)) % c < c := Nat.mod_lt _ c0
    rw [x5, x1, x2]
    refine wp_f (c_ge hj (by omega)) (wp_e1 (C_batterRound hvp c0 c9 (by omega)) (wp_c1 (C_sendUp hg hvp hn (hO2 _ hm) (by omega)) (fun J hJ => ?_)))
    have fJ : fr c_S11 I J := fr_tr p2 (c_17_11 hJ.1)
    have j5 : J 11 5 = 0 := by rw [hJ.1 11 5 (fun z => by unfold c_S17 at z; omega)]; exact q5
    have j6 : J 11 6 = nI sl := by rw [hJ.1 11 6 (fun z => by unfold c_S17 at z; omega)]; exact q6
    obtain ⟨j0, rfl⟩ : ∃ j0, j = j0 + 1 := ⟨j - 1, by omega⟩
    have bd := C_bnd (k := k) (fi := fi) (fc := fc) (j := j0) (f0 := fc + (k - (j0 + 1))) hn hsl hO2 (by omega) (hO2 _ hm)
    refine wp_c1 (C_fillWise (u := 400 ^ j0) (V := LV s d f c sl ti 2 k fi fc CH O j0) (sh := sh1 ti CH (O ((fi + (k - (j0 + 1))) % c)) (fc + (k - (j0 + 1)))) ⟨⟨hr, c_T17 fJ hT⟩, j5, fun e he => ⟨hJ.2 e he, sh1_lt hn (hO2 _ hm) he⟩, p4 j0 (by omega), p6 j0 (by omega), by omega⟩ bd.1 bd.2 j6 hsl p5.2.2 (by omega) (by omega)) (fun M hM => wp_let ?_)
    rw [nI_1 (j0 + 1)]
    have fR : ∀ a i, a = 15 ∨ (a = 18 ∧ i = 24) → ¬ c_SR (j0 + 1) a i → M a i = p.2 a i := fun a i z y => hM.1 a i (fun w => by
      rcases w with w | w
      · exact y w
      · omega)
    refine ih (J, M) ⟨by omega, ⟨fJ, j5, j6⟩, frL_tr p3 (frL_mono (fun a i z => by unfold c_SL; rcases z with z | z <;> omega) hM.1), fun i hi => ?_, c_Z_fill (by omega) fR p5, c_lev_fill (by omega) p5 (fun i z => fR 15 i (Or.inl rfl) z) p6 (LV_over _) (fun st hst => ?_)⟩
    · show M 16 i = _
      rw [hM.1 16 i (fun z => by rcases z with z | z <;> omega)]
      exact p4 i hi
    · show M 15 _ = _
      rw [hM.2 st hst, LV_2 hst]
  · have e : i = 0 := by omega
    subst e
    show M1 15 (0 * 25 + q) = lN 0
    rw [Nat.zero_mul, Nat.zero_add]
    exact z1.1 q hq
