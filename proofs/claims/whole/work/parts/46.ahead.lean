-- THE CLASS looks ahead
theorem sSh_1 {c ti kd b fc : Nat} {CH : Nat → Nat → Nat} (q : kd ≠ 3) : sSh c ti kd CH b fc = sh1 ti CH b fc := by
  funext e
  unfold sSh
  rw [if_neg q]
theorem sSh_3 {c ti b fc : Nat} {CH : Nat → Nat → Nat} : sSh c ti 3 CH b fc = sh3 c CH := by
  funext e
  unfold sSh
  rw [if_pos rfl]
theorem LV_s {s d f c sl ti kd k fi fc j st : Nat} {CH : Nat → Nat → Nat} {O : Nat → Nat} (hk : kd < 2) (hs1 : st < 24) : LV s d f c sl ti kd k fi fc CH O (j + 1) st = sH s d f (kd == 1) (20 ^ j) (LV s d f c sl ti kd k fi fc CH O j) (sh1 ti CH (O ((fi + (k - (j + 1))) % c)) (fc + (k - (j + 1)))) st := by
  have n2 : ¬ kd = 2 := by omega
  have n3 : ¬ kd = 3 := by omega
  show (if st < 24 then _ else 0) = _
  rw [if_pos hs1, sSh_1 n3]
  unfold sK sSc
  rw [if_neg n2, if_neg n2, if_neg n3]
theorem LV_2 {s d f c sl ti k fi fc j st : Nat} {CH : Nat → Nat → Nat} {O : Nat → Nat} (hs1 : st < 24) : LV s d f c sl ti 2 k fi fc CH O (j + 1) st = sV s d f (400 ^ j) sl (LV s d f c sl ti 2 k fi fc CH O j) (sh1 ti CH (O ((fi + (k - (j + 1))) % c)) (fc + (k - (j + 1)))) st := by
  show (if st < 24 then _ else 0) = _
  rw [if_pos hs1, sSh_1 (by decide)]
  unfold sK sSc
  rw [if_pos rfl, if_pos rfl]
theorem LV_3 {s d f c sl ti k fi fc j st : Nat} {CH : Nat → Nat → Nat} {O : Nat → Nat} (hs1 : st < 24) : LV s d f c sl ti 3 k fi fc CH O (j + 1) st = sH s d f false ((20 * c) ^ j) (LV s d f c sl ti 3 k fi fc CH O j) (sh3 c CH) st := by
  show (if st < 24 then _ else 0) = _
  rw [if_pos hs1, sSh_3]
  rfl
def c_SL (a _i : Nat) : Prop := a = 15 ∨ a = 16 ∨ a = 18
def c_S11 (a _i : Nat) : Prop := a = 17 ∨ a = 11
theorem c_T_fr {I J : e_I} {s d f : Nat} (h13 : ∀ i, J 13 i = I 13 i) (h14 : ∀ i, J 14 i = I 14 i) (h : c_T I s d f) : c_T J s d f := by
  unfold c_T
  simp only [h13, h14]
  exact h
theorem c_CV17 {I J : e_I} {g c s d f sl ti : Nat} {CH : Nat → Nat → Nat} {O : Nat → Nat} (hg : 23 ≤ g) (h : fr c_S11 I J) (hv : CV I g c s d f sl ti CH O) : CV J g c s d f sl ti CH O := CV_fr (fun i => h _ i (fun q => by unfold c_S11 at q; omega)) (fun i => h _ i (fun q => by unfold c_S11 at q; omega)) (fun i => h _ i (fun q => by unfold c_S11 at q; omega)) (fun i => h _ i (fun q => by unfold c_S11 at q; omega)) hv
theorem c_17_11 {I J : e_I} (h : fr c_S17 I J) : fr c_S11 I J := fr_mono (fun _ _ q => Or.inl q) h
theorem c_T17 {I J : e_I} {s d f : Nat} (h : fr c_S11 I J) (hT : c_T I s d f) : c_T J s d f := c_T_fr (fun i => h 13 i (fun q => by unfold c_S11 at q; omega)) (fun i => h 14 i (fun q => by unfold c_S11 at q; omega)) hT
theorem sh1_lt {c s d f sl ti b fc e : Nat} {CH : Nat → Nat → Nat} (hn : NV c s d f sl ti CH) (hb : b < c) (he : e < 6) : sh1 ti CH b fc e < 2 ^ 31 := by
  have := CH_le (sh1_sum (ti := ti) (fc := fc) (hn.2.2.2.2 b hb)) he
  omega
-- rows that are laid, level by level
def c_lev (M : e_L) (j : Nat) (V : Nat → Nat → Nat) : Prop := ∀ i, i < j → c_R M i (V i)
theorem c_Z_fill {L M : e_L} {j : Nat} (h1 : 1 ≤ j) (hf : ∀ a i, a = 15 ∨ (a = 18 ∧ i = 24) → ¬ c_SR j a i → M a i = L a i) (hz : c_Z L) : c_Z M := by
  refine ⟨fun q hq => ?_, fun i hi => ?_, ?_⟩
  · rw [hf 15 q (Or.inl rfl) (fun z => by have := z.2; omega)]
    exact hz.1 q hq
  · rw [hf 15 _ (Or.inl rfl) (fun z => by have := z.2; omega)]
    exact hz.2.1 i hi
  · rw [hf 18 24 (Or.inr ⟨rfl, rfl⟩) (fun z => by have := z.1; omega)]
    exact hz.2.2
theorem c_lev_fill {L M : e_L} {j : Nat} {V : Nat → Nat → Nat} (hj : j < 6) (hz : c_Z L) (hf : ∀ i, ¬ c_SR j 15 i → M 15 i = L 15 i) (hl : c_lev L j V) (h0 : V j 24 = 0) (hn : ∀ st, st < 24 → M 15 (j * 25 + st) = lN (V j st)) : c_lev M (j + 1) V := by
  intro i hi q hq
  by_cases e : i = j
  · subst e
    by_cases z : q = 24
    · subst z
      rw [hf _ (fun z => by have := z.2; omega), hz.2.1 i hj, h0]
    · exact hn q (by omega)
  · rw [hf _ (fun z => by have := z.2; omega)]
    exact hl i (by omega) q hq
theorem C_plainMean {I : e_I} {L : e_L} {g c s d f sl ti kd k fi fc st : Nat} {CH : Nat → Nat → Nat} {O : Nat → Nat} (hg : 23 ≤ g) (hv : CV I g c s d f sl ti CH O) (hn : NV c s d f sl ti CH) (hT : c_T I s d f) (hkd : kd < 2) (ha : c_any I (kd == 1)) (hz : c_Z L) (hs1 : st < 24) (h1 : 1 ≤ k) (hk : k ≤ 5) (hfi : fi < 1000) (hfc : fc < 100000) : wp (f_X1_plainMean g (nI fi) (nI fc) (nI k) (nI st) I L) (fun p => p.1 = lN (LV s d f c sl ti kd k fi fc CH O k st) ∧ fr c_S17 I p.2.1 ∧ frL c_SL L p.2.2 ∧ c_Z p.2.2 ∧ c_U p.2.2 20) := by
  obtain ⟨⟨c0, c9⟩, hr, hsl, ht, h20⟩ := id hn
  have haJ : ∀ J, fr c_S17 I J → c_any J (kd == 1) := fun J h => by
    unfold c_any
    rw [h 11 5 (fun q => by unfold c_S17 at q; omega)]
    exact ha
  unfold f_X1_plainMean
  refine wp_c1 (C_scaleBy (sc := 20)) (fun M1 hM1 => ?_)
  have z1 : c_Z M1 := ⟨fun q hq => by rw [hM1.1 15 q (show ¬ (15 : Nat) = 16 by decide)]; exact hz.1 q hq, fun j hj => by rw [hM1.1 15 _ (show ¬ (15 : Nat) = 16 by decide)]; exact hz.2.1 j hj, by rw [hM1.1 18 _ (show ¬ (18 : Nat) = 16 by decide)]; exact hz.2.2⟩
  refine wp_loop (F := fun n j (p : e_I × e_L) => f_X1_plainMean_10 g (nI fi) (nI fc) (nI k) (nI st) (fun (I_2 : e_I) (L_3 : e_L) =>
    e_b1 (f_X0_batterRound g (nI fi) I_2) (fun (r_4 : Int32) =>
    e_b1 (f_X1_sendUp g r_4 (nI fc) I_2) (fun (I_5 : e_I) =>
    e_b1 (f_X1_hitMean (nI k - 1) (nI st) I_5 L_3) (fun (r_6 : Int64) =>
    some (r_6, I_5, L_3))))) n (nI j) p.1 p.2) k (fun j p => 1 ≤ j ∧ fr c_S17 I p.1 ∧ frL c_SL L p.2 ∧ c_U p.2 20 ∧ c_Z p.2 ∧ c_lev p.2 j (LV s d f c sl ti kd k fi fc CH O)) ?_ ?_ e_FU 1 (I, M1) (by omega) (wp_FU (by omega)) ⟨Nat.le_refl _, fr_rfl, frL_mono (fun a i z => Or.inr (Or.inl z)) hM1.1, hM1.2, z1, fun i hi q hq => ?_⟩
  · intro n p hP
    obtain ⟨_, p2, p3, p4, p5, p6⟩ := hP
    show wp (f_X1_plainMean_10 g _ _ _ _ _ (n + 1) (nI k) p.1 p.2) _
    rw [f_X1_plainMean_10]
    have e1 : nI k - 1 = nI (k - 1) := nI_sub (b := 1) h1
    have hvp := c_CV17 hg (c_17_11 p2) hv
    have hm : fi % c < c := Nat.mod_lt _ c0
    rw [e1]
    refine wp_t (Int32.le_refl _) (wp_e1 (C_batterRound hvp c0 c9 (by omega)) (wp_c1 (C_sendUp hg hvp hn (hvp.2.2.2 _ hm).2 (by omega)) (fun J hJ => ?_)))
    have fJ : fr c_S17 I J := fr_tr p2 hJ.1
    obtain ⟨k0, rfl⟩ : ∃ k0, k = k0 + 1 := ⟨k - 1, by omega⟩
    have e2 : k0 + 1 - 1 = k0 := rfl
    rw [e2]
    refine wp_e1 (C_hitMean (u := 20 ^ k0) (V := LV s d f c sl ti kd (k0 + 1) fi fc CH O k0) (sh := sh1 ti CH (O (fi % c)) fc) hr (c_T17 (c_17_11 fJ) hT) (haJ J fJ) (fun e he => ⟨hJ.2 e he, sh1_lt hn (hvp.2.2.2 _ hm).2 he⟩) (p4 k0 (by omega)) (p6 k0 (by omega)) (by omega) hs1) (wp_some ⟨?_, fJ, p3, p5, p4⟩)
    show lN _ = lN _
    rw [LV_s hkd hs1, Nat.sub_self]
    rfl
  · intro n j p hj hP ih
    obtain ⟨p1, p2, p3, p4, p5, p6⟩ := hP
    show wp (f_X1_plainMean_10 g _ _ _ _ _ (n + 1) (nI j) p.1 p.2) _
    rw [f_X1_plainMean_10]
    have hvp := c_CV17 hg (c_17_11 p2) hv
    have x1 : nI fi + nI k - nI j = nI (fi + (k - j)) := by rw [nI_add, nI_sub (by omega)]; congr 1; omega
    have x2 : nI fc + nI k - nI j = nI (fc + (k - j)) := by rw [nI_add, nI_sub (by omega)]; congr 1; omega
    have hm : (fi + (k - j)) % c < c := Nat.mod_lt _ c0
    rw [x1, x2]
    refine wp_f (c_ge hj (by omega)) (wp_e1 (C_batterRound hvp c0 c9 (by omega)) (wp_c1 (C_sendUp hg hvp hn (hvp.2.2.2 _ hm).2 (by omega)) (fun J hJ => ?_)))
    have fJ : fr c_S17 I J := fr_tr p2 hJ.1
    obtain ⟨j0, rfl⟩ : ∃ j0, j = j0 + 1 := ⟨j - 1, by omega⟩
    refine wp_c1 (C_fillRow (u := 20 ^ j0) (V := LV s d f c sl ti kd k fi fc CH O j0) (sh := sh1 ti CH (O ((fi + (k - (j0 + 1))) % c)) (fc + (k - (j0 + 1)))) hr (c_T17 (c_17_11 fJ) hT) (haJ J fJ) (fun e he => ⟨hJ.2 e he, sh1_lt hn (hvp.2.2.2 _ hm).2 he⟩) (p4 j0 (by omega)) (p6 j0 (by omega)) (by omega) (by omega)) (fun M hM => wp_let ?_)
    rw [nI_1 (j0 + 1)]
    refine ih (J, M) ⟨by omega, fJ, frL_tr p3 (frL_mono (fun a i z => Or.inl z.1) hM.1), fun i hi => ?_, c_Z_fill (by omega) (fun a i _ z => hM.1 a i z) p5, c_lev_fill (by omega) p5 (fun i z => hM.1 15 i z) p6 (LV_over _) (fun st hst => ?_)⟩
    · show M 16 i = _
      rw [hM.1 16 i (fun z => by have := z.1; omega)]
      exact p4 i hi
    · show M 15 _ = _
      rw [hM.2 st hst, LV_s hkd hst]
  · have e : i = 0 := by omega
    subst e
    show M1 15 (0 * 25 + q) = lN 0
    rw [Nat.zero_mul, Nat.zero_add]
    exact z1.1 q hq
theorem C_odds {I : e_I} {L : e_L} {g c s d f sl ti k fi fc st : Nat} {CH : Nat → Nat → Nat} {O : Nat → Nat} (hg : 23 ≤ g) (hv : CV I g c s d f sl ti CH O) (hn : NV c s d f sl ti CH) (hT : c_T I s d f) (h11 : I 11 5 = 0) (hz : c_Z L) (hs1 : st < 24) (h1 : 1 ≤ k) (hk : k ≤ 5) (hfi : fi < 1000) (hfc : fc < 100000) : wp (f_X1_oddsOfRun g (nI fi) (nI fc) (nI k) (nI st) I L) (fun p => p.1 = lN (LV s d f c sl ti 1 k fi fc CH O k st) ∧ fr c_S11 I p.2.1 ∧ p.2.1 11 5 = 0 ∧ frL c_SL L p.2.2 ∧ c_Z p.2.2 ∧ c_U p.2.2 20) := by
  have f0 : fr c_S11 I (e_ui I 11 5 1) := fr_ui (Or.inr rfl)
  unfold f_X1_oddsOfRun
  refine wp_let ?_
  refine wp_c3 (C_plainMean (kd := 1) hg (c_CV17 hg f0 hv) hn (c_T17 f0 hT) (by decide) (by unfold c_any; rw [ui_s]; rfl) hz hs1 h1 hk hfi hfc) (fun r J M h => ?_)
  refine wp_let (wp_some ⟨h.1, fr_tr f0 (fr_tr (c_17_11 h.2.1) (fr_ui (Or.inr rfl))), ui_s (I := J) (a := 11) (i := 5) (x := 0), h.2.2.1, h.2.2.2.1, h.2.2.2.2⟩)
theorem C_layTable {I : e_I} {L : e_L} {g c s d f sl ti k fi fc : Nat} {CH : Nat → Nat → Nat} {O : Nat → Nat} (hg : 23 ≤ g) (hv : CV I g c s d f sl ti CH O) (hn : NV c s d f sl ti CH) (hT : c_T I s d f) (h11 : I 11 5 = 0) (hz : c_Z L) (hk : k ≤ 5) : wp (f_X1_layTable g (nI k) I L) (fun p => fr c_S17 I p.1 ∧ frL c_SL L p.2 ∧ c_Z p.2 ∧ c_U p.2 (20 * c) ∧ c_lev p.2 (k + 1) (LV s d f c sl ti 3 k fi fc CH O)) := by
  obtain ⟨⟨c0, c9⟩, hr, hsl, ht, h20⟩ := id hn
  have haJ : ∀ J, fr c_S17 I J → c_any J false := fun J h => by
    unfold c_any
    rw [h 11 5 (fun q => by unfold c_S17 at q; omega), h11]
    rfl
  have sc : (20 : Int64) * (I g 0).toInt64 = lN (20 * c) := by rw [hv.1, nI_l (by omega), l20, lN_mul]
  unfold f_X1_layTable
  rw [sc]
  refine wp_c1 (C_scaleBy (sc := 20 * c)) (fun M1 hM1 => ?_)
  have z1 : c_Z M1 := ⟨fun q hq => by rw [hM1.1 15 q (show ¬ (15 : Nat) = 16 by decide)]; exact hz.1 q hq, fun j hj => by rw [hM1.1 15 _ (show ¬ (15 : Nat) = 16 by decide)]; exact hz.2.1 j hj, by rw [hM1.1 18 _ (show ¬ (18 : Nat) = 16 by decide)]; exact hz.2.2⟩
  have sh3_lt : ∀ e, e < 6 → sh3 c CH e < 2 ^ 31 := fun e he => by
    have a := sSh_lt (ti := ti) (kd := 3) (fc := 0) h20 c0 c9 he
    rw [sSh_3] at a
    omega
  -- the chances of all together
  refine wp_loop (F := fun n e (p : e_I × e_L) => f_X1_layTable_15 g (nI k) (fun (I_2 : e_I) (L_3 : e_L) => f_X1_layTable_70 g (nI k) (fun (I_4 : e_I) (L_5 : e_L) => some (I_4, L_5)) e_FU 1 I_2 L_3) n (nI e) p.1 p.2) 6 (fun e p => p.2 = M1 ∧ fr c_S17 I p.1 ∧ ∀ i, i < e → p.1 17 i = nI (sh3 c CH i)) ?_ ?_ e_FU 0 (I, M1) (by omega) (wp_FU (by decide)) ⟨rfl, fr_rfl, fun _ h => by omega⟩
  · intro n p hP
    obtain ⟨p1, p2, p3⟩ := hP
    show wp (f_X1_layTable_15 g _ _ (n + 1) (nI 6) p.1 p.2) _
    rw [f_X1_layTable_15]
    refine wp_t (by decide) ?_
    refine wp_loop (F := fun n j (w : e_I × e_L) => f_X1_layTable_70 g (nI k) (fun (I_4 : e_I) (L_5 : e_L) => some (I_4, L_5)) n (nI j) w.1 w.2) (k + 1) (fun j w => w.1 = p.1 ∧ 1 ≤ j ∧ frL c_SL L w.2 ∧ c_Z w.2 ∧ c_U w.2 (20 * c) ∧ c_lev w.2 j (LV s d f c sl ti 3 k fi fc CH O)) ?_ ?_ e_FU 1 p (by omega) (wp_FU (by omega)) ⟨rfl, Nat.le_refl _, ?_, ?_, ?_, fun i hi q hq => ?_⟩
    · intro n w hW
      obtain ⟨w1, _, w2, w3, w4, w5⟩ := hW
      show wp (f_X1_layTable_70 g _ _ (n + 1) (nI (k + 1)) w.1 w.2) _
      rw [f_X1_layTable_70]
      refine wp_t (nI_lt (by omega) (by omega)) (wp_some ⟨?_, w2, w3, w4, w5⟩)
      show fr c_S17 I w.1
      rw [w1]
      exact p2
    · intro n j w hj hW ih
      obtain ⟨w1, w0, w2, w3, w4, w5⟩ := hW
      show wp (f_X1_layTable_70 g _ _ (n + 1) (nI j) w.1 w.2) _
      rw [f_X1_layTable_70]
      obtain ⟨j0, rfl⟩ : ∃ j0, j = j0 + 1 := ⟨j - 1, by omega⟩
      refine wp_f (nI_nlt (by omega) (by omega)) (wp_c1 (C_fillRow (any := false) (u := (20 * c) ^ j0) (V := LV s d f c sl ti 3 k fi fc CH O j0) (sh := sh3 c CH) hr (by rw [w1]; exact c_T17 (c_17_11 p2) hT) (by rw [w1]; exact haJ _ p2) (fun e he => ⟨by rw [w1]; exact p3 e he, sh3_lt e he⟩) (w4 j0 (by omega)) (w5 j0 (by omega)) (by omega) (by omega)) (fun M hM => wp_let ?_))
      rw [nI_1 (j0 + 1)]
      refine ih (w.1, M) ⟨w1, by omega, frL_tr w2 (frL_mono (fun a i z => Or.inl z.1) hM.1), c_Z_fill (by omega) (fun a i _ z => hM.1 a i z) w3, fun i hi => ?_, c_lev_fill (by omega) w3 (fun i z => hM.1 15 i z) w5 (LV_over _) (fun st hst => ?_)⟩
      · show M 16 i = _
        rw [hM.1 16 i (fun z => by have := z.1; omega)]
        exact w4 i hi
      · show M 15 _ = _
        rw [hM.2 st hst, LV_3 hst]
    · rw [p1]
      exact frL_mono (fun a i z => Or.inr (Or.inl z)) hM1.1
    · rw [p1]
      exact z1
    · rw [p1]
      exact hM1.2
    · have e : i = 0 := by omega
      subst e
      show p.2 15 (0 * 25 + q) = lN 0
      rw [p1, Nat.zero_mul, Nat.zero_add]
      exact z1.1 q hq
  · intro n e p he hP ih
    obtain ⟨p1, p2, p3⟩ := hP
    show wp (f_X1_layTable_15 g _ _ (n + 1) (nI e) p.1 p.2) _
    rw [f_X1_layTable_15]
    refine wp_f (c_ge (N := 6) he (by decide)) (wp_as (nI_ix he (by omega)) (wp_let ?_))
    rw [nI_clamp (by omega)]
    refine wp_loop (F := fun n b (w : e_I × e_L) => f_X1_layTable_31 g (nI k) (nI e) (fun (I_4 : e_I) (L_5 : e_L) => e_let (nI e + 1) (fun (x_6 : Int32) => f_X1_layTable_15 g (nI k) (fun (I_2 : e_I) (L_3 : e_L) => f_X1_layTable_70 g (nI k) (fun (I_4 : e_I) (L_5 : e_L) => some (I_4, L_5)) e_FU 1 I_2 L_3) _ x_6 I_4 L_5)) n (nI b) w.1 w.2) c (fun b w => w.2 = M1 ∧ fr c_S17 I w.1 ∧ (∀ i, i < e → w.1 17 i = nI (sh3 c CH i)) ∧ w.1 17 e = nI (hs (fun b => CH b e) b)) ?_ ?_ e_FU 0 (e_ui p.1 17 e 0, p.2) (by omega) (wp_FU (by omega)) ⟨p1, fr_tr p2 (fr_ui rfl), fun i hi => (ui_i (I := p.1) (a := 17) (i := e) (b := 17) (x := 0) (show i ≠ e by omega)).trans (p3 i hi), ui_s (I := p.1) (a := 17) (i := e) (x := 0)⟩
    · intro m w hW
      obtain ⟨w1, w2, w3, w4⟩ := hW
      have hvw := c_CV17 hg (c_17_11 w2) hv
      show wp (f_X1_layTable_31 g _ _ _ (m + 1) (nI c) w.1 w.2) _
      rw [f_X1_layTable_31, hvw.1]
      refine wp_t (Int32.le_refl _) (wp_let ?_)
      rw [nI_1 e]
      refine ih w ⟨w1, w2, fun i hi => ?_⟩
      by_cases q : i = e
      · subst q
        exact w4
      · exact w3 i (by omega)
    · intro m b w hb hW ih2
      obtain ⟨w1, w2, w3, w4⟩ := hW
      have hvw := c_CV17 hg (c_17_11 w2) hv
      show wp (f_X1_layTable_31 g _ _ _ (m + 1) (nI b) w.1 w.2) _
      rw [f_X1_layTable_31, hvw.1]
      refine wp_f (c_ge hb (by omega)) (wp_as (nI_ix he (by omega)) (wp_e1 (C_chanceOf hvw hb c9 he) (wp_as (nI_ix he (by omega)) (wp_let (wp_let ?_)))))
      rw [nI_1 b, nI_clamp (by omega), w4, nI_add]
      exact ih2 (e_ui w.1 17 e (nI (hs (fun b => CH b e) b + CH b e)), w.2) ⟨w1, fr_tr w2 (fr_ui rfl), fun i hi => (ui_i (I := w.1) (a := 17) (i := e) (b := 17) (show i ≠ e by omega)).trans (w3 i hi), ui_s (I := w.1) (a := 17) (i := e)⟩
theorem C_tableAt {L : e_L} {j st : Nat} {V : Nat → Nat} (h : c_R L j V) (hj : j ≤ 5) (hs1 : st ≤ 24) : f_X1_tableAt (nI j) (nI st) L = some (lN (V st)) := by
  have ix : nI j * 25 + nI st = nI (j * 25 + st) := by rw [n25, nI_mul, nI_add]
  unfold f_X1_tableAt f_X1_tableAt_34 e_as
  rw [r_within, if_pos (show (0 : Int32) ≤ nI j ∧ nI j ≤ 5 from ⟨nI_pos' (by omega), nI_le (b := 5) hj (by decide)⟩), r_b1, if_neg (by decide), r_within, if_pos (show (0 : Int32) ≤ nI st ∧ nI st ≤ 24 from ⟨nI_pos' (by omega), nI_le (b := 24) hs1 (by decide)⟩), r_b1, if_neg (by decide), ix, if_pos (nI_ix (by omega) (by omega)), nI_clamp (by omega), h st hs1]
