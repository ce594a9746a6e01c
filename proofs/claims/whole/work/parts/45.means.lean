-- THE CLASS's batters
def CV (I : e_I) (g c s d f sl ti : Nat) (CH : Nat → Nat → Nat) (O : Nat → Nat) : Prop := I g 0 = nI c ∧ (I (g + 2) 0 = nI s ∧ I (g + 2) 1 = nI d ∧ I (g + 2) 2 = nI f ∧ I (g + 2) 3 = nI sl ∧ I (g + 2) 4 = nI ti) ∧ (∀ b, b < c → ∀ e, e < 6 → I (g + 1) (6 * b + e) = nI (CH b e)) ∧ (∀ i, i < c → I (g + 3) i = nI (O i) ∧ O i < c)
theorem CV_fr {I J : e_I} {g c s d f sl ti : Nat} {CH : Nat → Nat → Nat} {O : Nat → Nat} (h0 : ∀ i, J g i = I g i) (h1 : ∀ i, J (g + 1) i = I (g + 1) i) (h2 : ∀ i, J (g + 2) i = I (g + 2) i) (h3 : ∀ i, J (g + 3) i = I (g + 3) i) (h : CV I g c s d f sl ti CH O) : CV J g c s d f sl ti CH O := by
  unfold CV
  simp only [h0, h1, h2, h3]
  exact h
theorem C_chanceOf {I : e_I} {g c s d f sl ti b e : Nat} {CH : Nat → Nat → Nat} {O : Nat → Nat} (hv : CV I g c s d f sl ti CH O) (hb : b < c) (hc : c ≤ 9) (he : e < 6) : f_X0_chanceOf g (nI b) (nI e) I = some (nI (CH b e)) := by
  have ix : nI b * 6 + nI e = nI (6 * b + e) := by rw [n6, nI_mul, nI_add, Nat.mul_comm]
  unfold f_X0_chanceOf f_X0_chanceOf_35 e_as
  rw [if_neg (nI_pos (by omega)), if_neg (show ¬ nI b ≥ 9 from c_ge (N := 9) (by omega) (by decide)), if_neg (nI_pos (by omega)), if_neg (show ¬ nI e ≥ 6 from c_ge (N := 6) he (by decide)), ix, if_pos (nI_ix (by omega) (by omega)), nI_clamp (by omega), hv.2.2.1 b hb e he]
theorem C_tiredBy {I : e_I} {g c s d f sl ti b fc : Nat} {CH : Nat → Nat → Nat} {O : Nat → Nat} (hv : CV I g c s d f sl ti CH O) (hn : NV c s d f sl ti CH) (hb : b < c) (hf : fc < 2 ^ 30) : f_X0_tiredBy g (nI b) (nI fc) I = some (nI (tb ti fc (CH b 0))) := by
  obtain ⟨⟨c0, c9⟩, _, _, ⟨t1, t99⟩, h20⟩ := hn
  have t4 : I (g + 2) (4 : Int32).toNatClampNeg = nI ti := hv.2.1.2.2.2.2
  have d5 : nI fc / nI ti = nI (fc / ti) := nI_div (by omega) (by omega) (by omega)
  have l0 := CH_le (h20 b hb) (show 0 < 6 by decide)
  have hd : fc / ti ≤ fc := Nat.div_le_self _ _
  unfold f_X0_tiredBy f_X0_tiredBy_27 e_as
  rw [e_lt, t4, if_neg (show ¬ nI ti ≤ 0 from nI_nle (by omega) (by omega)), show f_X0_chanceOf g (nI b) 0 I = some (nI (CH b 0)) from C_chanceOf (e := 0) hv hb c9 (by decide), r_b1, if_pos (show ¬ nI ti = 0 from nI_ne0 (by omega) (by omega)), d5, nI_min (by omega) (by omega)]
  rfl
theorem C_tiredChance {I : e_I} {g c s d f sl ti b e fc : Nat} {CH : Nat → Nat → Nat} {O : Nat → Nat} (hv : CV I g c s d f sl ti CH O) (hn : NV c s d f sl ti CH) (hb : b < c) (he : e < 6) (hf : fc < 2 ^ 30) : f_X0_tiredChance g (nI b) (nI e) (nI fc) I = some (nI (sh1 ti CH b fc e)) := by
  have l0 : tb ti fc (CH b 0) ≤ CH b 0 := Nat.min_le_left _ _
  unfold f_X0_tiredChance f_X0_tiredChance_43 sh1
  rw [C_chanceOf hv hb hn.1.2 he, r_b1]
  by_cases q : e = 0
  · subst q
    rw [if_neg (fun n => n rfl), if_pos rfl, C_tiredBy hv hn hb hf, r_b1, nI_sub l0]
  · rw [if_pos (show nI e ≠ 0 from nI_n (b := 0) q (by omega) (by decide)), if_neg q]
    by_cases q2 : e = 2
    · subst q2
      rw [if_neg (fun n => n rfl), if_pos rfl, C_tiredBy hv hn hb hf, r_b1, nI_add]
    · rw [if_pos (show nI e ≠ 2 from nI_n (b := 2) q2 (by omega) (by decide)), if_neg q2]
theorem C_batterAt {I : e_I} {g c s d f sl ti i : Nat} {CH : Nat → Nat → Nat} {O : Nat → Nat} (hv : CV I g c s d f sl ti CH O) (hc : c ≤ 9) (hi : i < c) : f_X0_batterAt g (nI i) I = some (nI (O i)) := by
  unfold f_X0_batterAt f_X0_batterAt_20 e_as
  rw [if_neg (nI_pos (by omega)), if_neg (show ¬ nI i ≥ 9 from c_ge (N := 9) (by omega) (by decide)), if_pos (nI_ix (by omega) (by omega)), nI_clamp (by omega), (hv.2.2.2 i hi).1]
theorem C_batterRound {I : e_I} {g c s d f sl ti i : Nat} {CH : Nat → Nat → Nat} {O : Nat → Nat} (hv : CV I g c s d f sl ti CH O) (c0 : 0 < c) (hc : c ≤ 9) (hi : i < 2 ^ 31) : f_X0_batterRound g (nI i) I = some (nI (O (i % c))) := by
  unfold f_X0_batterRound f_X0_batterRound_21 e_as
  rw [hv.1, if_neg (show ¬ nI c ≤ 0 from nI_nle (by omega) (by omega)), if_pos (show ¬ nI c = 0 from nI_ne0 (by omega) (by omega)), nI_rm c0 hi (by omega), C_batterAt hv hc (Nat.mod_lt _ c0), r_b1]
theorem C_placeOf {I : e_I} {g c s d f sl ti p b : Nat} {CH : Nat → Nat → Nat} {O : Nat → Nat} (hv : CV I g c s d f sl ti CH O) (hc : c ≤ 9) (hp : p < c) (hb : O p = b) (hb9 : b < 2 ^ 31) (hf : ∀ i, i < p → O i ≠ b) : f_X0_placeOf g (nI b) I = some (nI p) := by
  have key : ∀ n i, i ≤ p → p - i < n → f_X0_placeOf_2 g I (nI b) (fun (_ : Unit) => some 0) (fun (v2_1 : Int32) => some v2_1) n (nI i) = some (nI p) := by
    intro n
    induction n with
    | zero => intro i _ h; omega
    | succ n ih =>
      intro i hi hn
      have o := hv.2.2.2 i (by omega)
      rw [f_X0_placeOf_2, hv.1, if_neg (show ¬ nI i ≥ nI c from c_ge (by omega) (by omega)), if_neg (show ¬ nI i ≥ 9 from c_ge (N := 9) (by omega) (by decide))]
      unfold e_as
      rw [if_pos (nI_ix (by omega) (by omega)), nI_clamp (by omega), o.1]
      by_cases q : i = p
      · subst q
        rw [if_neg (fun n => n (by rw [hb]))]
      · rw [if_pos (nI_n (hf i (by omega)) (by omega) hb9), e_lt, nI_1]
        exact ih (i + 1) (by omega) (by omega)
  exact key e_FU 0 (by omega) (wp_FU (by omega))
theorem M_placeOf {I : e_I} {c p b : Nat} {O : Nat → Nat} (hO : ∀ i, i < c → I 85 (60 + i) = nI (O i) ∧ O i < c) (hc : c ≤ 9) (hp : p < c) (hb : O p = b) (hb9 : b < 2 ^ 31) (hf : ∀ i, i < p → O i ≠ b) : f_X8_placeOf (nI b) I = some (nI p) := by
  have key : ∀ n i, i ≤ p → p - i < n → f_X8_placeOf_2 I (nI b) (fun (v2_1 : Int32) => some v2_1) n (nI i) = some (nI p) := by
    intro n
    induction n with
    | zero => intro i _ h; omega
    | succ n ih =>
      intro i hi hn
      have o := hO i (by omega)
      rw [f_X8_placeOf_2, n60, nI_add]
      unfold e_as
      rw [if_pos (nI_ix (by omega) (by omega)), nI_clamp (by omega), o.1]
      by_cases q : i = p
      · subst q
        rw [if_pos (by rw [hb])]
      · rw [if_neg (nI_n (hf i (by omega)) (by omega) hb9), e_lt, nI_1]
        exact ih (i + 1) (by omega) (by omega)
  exact key e_FU 0 (by omega) (wp_FU (by omega))
def c_S17 (a _i : Nat) : Prop := a = 17
theorem C_sendUp {I : e_I} {g c s d f sl ti b fc : Nat} {CH : Nat → Nat → Nat} {O : Nat → Nat} (hg : 23 ≤ g) (hv : CV I g c s d f sl ti CH O) (hn : NV c s d f sl ti CH) (hb : b < c) (hf : fc < 2 ^ 30) : wp (f_X1_sendUp g (nI b) (nI fc) I) (fun J => fr c_S17 I J ∧ ∀ e, e < 6 → J 17 e = nI (sh1 ti CH b fc e)) := by
  have c0 := hn.1
  have l0 : tb ti fc (CH b 0) ≤ CH b 0 := Nat.min_le_left _ _
  have hvJ : ∀ J, fr c_S17 I J → CV J g c s d f sl ti CH O := fun J h => CV_fr (fun i => h _ i (fun q => by unfold c_S17 at q; omega)) (fun i => h _ i (fun q => by unfold c_S17 at q; omega)) (fun i => h _ i (fun q => by unfold c_S17 at q; omega)) (fun i => h _ i (fun q => by unfold c_S17 at q; omega)) hv
  unfold f_X1_sendUp
  refine wp_loop (F := fun n e J => f_X1_sendUp_3 g (nI b) (nI fc) (fun (I_1 : e_I) =>
    e_b1 (f_X0_tiredBy g (nI b) (nI fc) I_1) (fun (r_2 : Int32) =>
    e_let (e_ui I_1 17 (0 : Int32).toNatClampNeg ((I_1 17 (0 : Int32).toNatClampNeg) - r_2)) (fun (I_3 : e_I) =>
    e_let (e_ui I_3 17 (2 : Int32).toNatClampNeg ((I_3 17 (2 : Int32).toNatClampNeg) + r_2)) (fun (I_4 : e_I) =>
    some I_4)))) n (nI e) J) 6 (fun e J => fr c_S17 I J ∧ ∀ i, i < e → J 17 i = nI (CH b i)) ?_ ?_ e_FU 0 I (by omega) (wp_FU (by decide)) ⟨fr_rfl, fun _ h => by omega⟩
  · intro n J hP
    show wp (f_X1_sendUp_3 _ _ _ _ (n + 1) (nI 6) J) _
    rw [f_X1_sendUp_3]
    refine wp_t (by decide) (wp_e1 (C_tiredBy (hvJ J hP.1) hn hb hf) (wp_let (wp_let (wp_some ?_))))
    have z0 : (0 : Int32).toNatClampNeg = 0 := rfl
    have z2 : (2 : Int32).toNatClampNeg = 2 := rfl
    rw [z0, z2, hP.2 0 (by decide), ui_i (show (2 : Nat) ≠ 0 by decide), hP.2 2 (by decide), nI_sub l0, nI_add]
    refine ⟨fr_tr hP.1 (fr_tr (fr_ui rfl) (fr_ui rfl)), fun e he => ?_⟩
    unfold sh1
    by_cases q2 : e = 2
    · subst q2
      rw [ui_s, if_neg (by decide), if_pos rfl]
    · rw [ui_i q2]
      by_cases q : e = 0
      · subst q
        rw [ui_s, if_pos rfl]
      · rw [ui_i q, if_neg q, if_neg q2, hP.2 e he]
  · intro n e J he hP ih
    show wp (f_X1_sendUp_3 _ _ _ _ (n + 1) (nI e) J) _
    rw [f_X1_sendUp_3]
    refine wp_f (c_ge (N := 6) he (by decide)) (wp_e1 (C_chanceOf (hvJ J hP.1) hb c0.2 he) (wp_as (nI_ix he (by omega)) (wp_let (wp_let ?_))))
    rw [nI_1 e, nI_clamp (by omega)]
    refine ih (e_ui J 17 e (nI (CH b e))) ⟨fr_tr hP.1 (fr_ui rfl), fun i hi => ?_⟩
    by_cases q : i = e
    · subst q
      rw [ui_s]
    · rw [ui_i q, hP.2 i (by omega)]
-- units, rows
def c_U (L : e_L) (sc : Nat) : Prop := ∀ j, j < 6 → L 16 j = lN (sc ^ j)
def c_R (L : e_L) (j : Nat) (V : Nat → Nat) : Prop := ∀ q, q ≤ 24 → L 15 (j * 25 + q) = lN (V q)
def c_Z (L : e_L) : Prop := (∀ q, q ≤ 24 → L 15 q = lN 0) ∧ (∀ j, j < 6 → L 15 (j * 25 + 24) = lN 0) ∧ L 18 24 = lN 0
theorem C_scaleBy {L : e_L} {sc : Nat} : wp (f_X1_scaleBy (lN sc) L) (fun M => frL (fun a _ => a = 16) L M ∧ c_U M sc) := by
  unfold f_X1_scaleBy
  refine wp_let ?_
  refine wp_loop (F := fun n j M => f_X1_scaleBy_9 (lN sc) (fun L_2 => some L_2) n (nI j) M) 6 (fun j M => frL (fun a _ => a = 16) L M ∧ 1 ≤ j ∧ ∀ i, i < j → M 16 i = lN (sc ^ i)) ?_ ?_ e_FU 1 (e_ul L 16 (0 : Int32).toNatClampNeg 1) (by omega) (wp_FU (by decide)) ⟨frL_ul rfl, Nat.le_refl _, fun i hi => ?_⟩
  · intro n M hP
    show wp (f_X1_scaleBy_9 _ _ (n + 1) (nI 6) M) _
    rw [f_X1_scaleBy_9]
    exact wp_t (by decide) (wp_some ⟨hP.1, fun j hj => hP.2.2 j hj⟩)
  · intro n j M hj hP ih
    show wp (f_X1_scaleBy_9 _ _ (n + 1) (nI j) M) _
    rw [f_X1_scaleBy_9]
    have e1 : nI j - 1 = nI (j - 1) := nI_sub (b := 1) hP.2.1
    rw [e1]
    refine wp_f (c_ge (N := 6) hj (by decide)) (wp_as (nI_ix (by omega) (by omega)) (wp_as (nI_ix hj (by omega)) (wp_let (wp_let ?_))))
    rw [nI_1 j, nI_clamp (n := j) (by omega), nI_clamp (n := j - 1) (by omega), hP.2.2 (j - 1) (by omega), lN_mul, ← Nat.pow_succ, Nat.succ_eq_add_one, Nat.sub_add_cancel hP.2.1]
    refine ih (e_ul M 16 j (lN (sc ^ j))) ⟨frL_tr hP.1 (frL_ul rfl), by omega, fun i hi => ?_⟩
    by_cases q : i = j
    · subst q
      rw [ul_s]
    · rw [ul_i q, hP.2.2 i (by omega)]
  · have e : i = 0 := by omega
    subst e
    exact ul_s
theorem C_unit {L : e_L} {sc k : Nat} (h : c_U L sc) (hk : k ≤ 5) : f_X1_unit (nI k) L = some (lN (sc ^ k)) := by
  unfold f_X1_unit f_X1_unit_19 e_as
  rw [r_within, if_pos ⟨nI_pos' (by omega), nI_le (b := 5) hk (by decide)⟩, r_b1, if_neg (by decide), if_pos (nI_ix (by omega) (by omega)), nI_clamp (by omega), h k (by omega)]
def c_any (I : e_I) (any : Bool) : Prop := I 11 5 = if any = true then 1 else 0
theorem C_gain {I : e_I} {L : e_L} {any : Bool} {j r bh u : Nat} {V : Nat → Nat} (ha : c_any I any) (hu : L 16 j = lN u) (hV : c_R L j V) (hj : j ≤ 5) (hb : bh ≤ 24) (hr : r ≤ 4) : f_X1_gain (nI j) (nI r) (nI bh) I L = some (lN (if any = true ∧ 0 < r then u else r * u + V bh)) := by
  have ix : nI j * 25 + nI bh = nI (j * 25 + bh) := by rw [n25, nI_mul, nI_add]
  have g41 : f_X1_gain_41 I L (nI j) (nI r) (nI bh) = some (lN (r * u + V bh)) := by
    unfold f_X1_gain_41 f_X1_gain_62 e_as
    rw [if_pos (nI_ix (by omega) (by omega)), ix, if_pos (nI_ix (by omega) (by omega)), nI_clamp (n := j) (by omega), nI_clamp (n := j * 25 + bh) (by omega), hu, hV bh hb, nI_l (by omega), lN_mul, lN_add]
  unfold f_X1_gain
  rw [if_neg (nI_pos (by omega)), if_neg (show ¬ nI j > 5 from nI_nlt (a := 5) hj (by decide)), if_neg (nI_pos (by omega)), if_pos (show nI bh ≤ 24 from nI_le (b := 24) hb (by decide)), ha]
  by_cases q : any = true
  · rw [if_pos q, if_neg (by decide)]
    by_cases z : r = 0
    · subst z
      rw [if_pos (by decide), g41, if_neg (fun n => absurd n.2 (by decide))]
    · rw [if_neg (show ¬ nI r ≤ 0 from nI_nle (by omega) (by omega)), if_pos ⟨q, by omega⟩]
      unfold f_X1_gain_62 e_as
      rw [if_pos (nI_ix (by omega) (by omega)), nI_clamp (by omega), hu]
  · rw [if_neg q, if_pos rfl, g41, if_neg (fun n => q n.1)]
def c_sh (I : e_I) (sh : Nat → Nat) : Prop := ∀ e, e < 6 → I 17 e = nI (sh e) ∧ sh e < 2 ^ 31
theorem C_hitMean {I : e_I} {L : e_L} {s d f u j st : Nat} {any : Bool} {V sh : Nat → Nat} (h : RV s d f) (hT : c_T I s d f) (ha : c_any I any) (hh : c_sh I sh) (hu : L 16 j = lN u) (hV : c_R L j V) (hj : j ≤ 5) (hs1 : st < 24) : f_X1_hitMean (nI j) (nI st) I L = some (lN (sH s d f any u V sh st)) := by
  have key : ∀ n e, e ≤ 6 → 6 - e < n → f_X1_hitMean_17 I L (nI j) (nI st) (fun (v3_3 : Int64) => some v3_3) n (lN (hs (fun e => sh e * sG s d f any u V e st) e)) (nI e) = some (lN (sH s d f any u V sh st)) := by
    intro n
    induction n with
    | zero => intro e _ h; omega
    | succ n ih =>
      intro e he hn
      rw [f_X1_hitMean_17]
      by_cases q : e = 6
      · subst q
        rw [if_pos (by decide)]
        rfl
      · have he6 : e < 6 := by omega
        rw [if_neg (show ¬ nI e ≥ 6 from c_ge (N := 6) he6 (by decide))]
        unfold e_as
        rw [if_pos (nI_ix he6 (by omega)), nI_clamp (n := e) (by omega), (hh e he6).1]
        have hc : mC e st = true := by
          unfold mC
          rw [if_pos he6]
        obtain ⟨t1, t2⟩ := hT e (by omega) st hs1
        rw [if_pos hc] at t1 t2
        have ix : nI e * 24 + nI st = nI (e * 24 + st) := by rw [n24, nI_mul, nI_add]
        have nx := ih (e + 1) (by omega) (by omega)
        by_cases z : sh e = 0
        · rw [z, if_pos (by decide)]
          unfold f_X1_hitMean_80
          rw [e_lt, nI_1 e]
          have e1 : hs (fun e => sh e * sG s d f any u V e st) (e + 1) = hs (fun e => sh e * sG s d f any u V e st) e := by
            show hs (fun e => sh e * sG s d f any u V e st) e + sh e * sG s d f any u V e st = _
            rw [z, Nat.zero_mul, Nat.add_zero]
          rw [e1] at nx
          exact nx
        · rw [if_neg (show ¬ nI (sh e) ≤ 0 from nI_nle (by omega) (hh e he6).2), e_lt, ix, if_pos (nI_ix (by omega) (by omega)), if_pos (nI_ix (N := 216) (by omega) (by omega)), if_pos (nI_ix (N := 216) (by omega) (by omega)), nI_clamp (n := e * 24 + st) (by omega), t1, t2, C_gain ha hu hV hj (mB_le h (by omega) hs1) (mR_le h (by omega) hs1), r_b1, e_lt, nI_l (hh e he6).2, lN_mul, lN_add]
          unfold f_X1_hitMean_80
          rw [e_lt, nI_1 e]
          exact nx
  unfold f_X1_hitMean
  rw [if_neg (nI_pos (by omega)), if_pos (show nI st < 24 from nI_lt (b := 24) hs1 (by decide))]
  exact key e_FU 0 (by omega) (wp_FU (by decide))
def c_SR (j a i : Nat) : Prop := a = 15 ∧ j * 25 ≤ i ∧ i < j * 25 + 24
theorem C_fillRow {I : e_I} {L : e_L} {s d f u j : Nat} {any : Bool} {V sh : Nat → Nat} (h : RV s d f) (hT : c_T I s d f) (ha : c_any I any) (hh : c_sh I sh) (hu : L 16 (j - 1) = lN u) (hV : c_R L (j - 1) V) (h1 : 1 ≤ j) (hj : j ≤ 5) : wp (f_X1_fillRow (nI j) I L) (fun M => frL (c_SR j) L M ∧ ∀ st, st < 24 → M 15 (j * 25 + st) = lN (sH s d f any u V sh st)) := by
  unfold f_X1_fillRow
  refine wp_e1 (r_within _ _ _) ?_
  rw [if_pos (show (1 : Int32) ≤ nI j ∧ nI j ≤ 5 from ⟨nI_le (a := 1) h1 (by omega), nI_le (b := 5) hj (by decide)⟩)]
  refine wp_t (by decide) ?_
  refine wp_loop (F := fun n st M => f_X1_fillRow_12 I (nI j) (fun L_3 => some L_3) n (nI st) M) 24 (fun st M => frL (c_SR j) L M ∧ ∀ i, i < st → M 15 (j * 25 + i) = lN (sH s d f any u V sh i)) ?_ ?_ e_FU 0 L (by omega) (wp_FU (by decide)) ⟨frL_rfl, fun _ h => by omega⟩
  · intro n M hP
    show wp (f_X1_fillRow_12 _ _ _ (n + 1) (nI 24) M) _
    rw [f_X1_fillRow_12]
    exact wp_t (by decide) (wp_some hP)
  · intro n st M hst hP ih
    show wp (f_X1_fillRow_12 _ _ _ (n + 1) (nI st) M) _
    rw [f_X1_fillRow_12]
    have e1 : nI j - 1 = nI (j - 1) := nI_sub (b := 1) h1
    have ix : nI j * 25 + nI st = nI (j * 25 + st) := by rw [n25, nI_mul, nI_add]
    have huM : M 16 (j - 1) = lN u := by rw [hP.1 16 _ (fun z => by have := z.1; omega)]; exact hu
    have hVM : c_R M (j - 1) V := fun q hq => by
      rw [hP.1 15 _ (fun z => by have := z.2; omega)]
      exact hV q hq
    rw [e1, ix]
    refine wp_f (c_ge (N := 24) hst (by decide)) (wp_e1 (C_hitMean h hT ha hh huM hVM (by omega) hst) (wp_as (nI_ix (by omega) (by omega)) (wp_let (wp_let ?_))))
    rw [nI_1 st, nI_clamp (by omega)]
    refine ih (e_ul M 15 (j * 25 + st) (lN (sH s d f any u V sh st))) ⟨frL_tr hP.1 (frL_ul ⟨rfl, by omega, by omega⟩), fun i hi => ?_⟩
    by_cases q : i = st
    · subst q
      rw [ul_s]
    · rw [ul_i (show j * 25 + i ≠ j * 25 + st by omega), hP.2 i (by omega)]
