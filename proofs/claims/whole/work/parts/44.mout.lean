-- the model's batters
def MV (I : e_I) (c s d f sl ti : Nat) (CH : Nat → Nat → Nat) : Prop := I 85 0 = nI c ∧ M_c I s d f ∧ I 85 4 = nI sl ∧ I 85 5 = nI ti ∧ ∀ b, b < c → ∀ e, e < 6 → I 85 (6 + 6 * b + e) = nI (CH b e)
def NV (c s d f sl ti : Nat) (CH : Nat → Nat → Nat) : Prop := (0 < c ∧ c ≤ 9) ∧ RV s d f ∧ sl ≤ 20 ∧ (1 ≤ ti ∧ ti ≤ 99) ∧ ∀ b, b < c → hs (CH b) 6 = 20
theorem MV_85 {I J : e_I} {c s d f sl ti : Nat} {CH : Nat → Nat → Nat} (h : ∀ i, J 85 i = I 85 i) (hm : MV I c s d f sl ti CH) : MV J c s d f sl ti CH := by
  unfold MV M_c
  simp only [h]
  exact hm
theorem CH_le {CH : Nat → Nat} (h : hs CH 6 = 20) {e : Nat} (he : e < 6) : CH e ≤ 20 := by
  have e1 : hs CH 6 = 0 + CH 0 + CH 1 + CH 2 + CH 3 + CH 4 + CH 5 := rfl
  have c : e = 0 ∨ e = 1 ∨ e = 2 ∨ e = 3 ∨ e = 4 ∨ e = 5 := by omega
  rcases c with c | c | c | c | c | c <;> subst c <;> omega
theorem M_chance {I : e_I} {c s d f sl ti b e fc : Nat} {CH : Nat → Nat → Nat} (hm : MV I c s d f sl ti CH) (hn : NV c s d f sl ti CH) (hb : b < c) (he : e < 6) (hf : fc < 2 ^ 30) : f_X8_chanceOf (nI b) (nI e) (nI fc) I = some (nI (sh1 ti CH b fc e)) := by
  obtain ⟨m0, _, _, m5, mc⟩ := hm
  obtain ⟨⟨c0, c9⟩, _, _, ⟨t1, t99⟩, h20⟩ := hn
  have ix : (6 : Int32) + (6 : Int32) * nI b = nI (6 + 6 * b) := by rw [n6, nI_mul, nI_add]
  have ix2 : (6 : Int32) + (6 : Int32) * nI b + nI e = nI (6 + 6 * b + e) := by rw [ix, nI_add]
  have l0 := CH_le (h20 b hb) (show 0 < 6 by decide)
  have le := CH_le (h20 b hb) he
  have hd : fc / ti ≤ fc := Nat.div_le_self _ _
  have key : ∀ t, t ≤ CH b 0 → f_X8_chanceOf_38 I (nI b) (nI e) (nI t) = some (nI (if e = 0 then CH b 0 - t else if e = 2 then CH b 2 + t else CH b e)) := fun t ht => by
    unfold f_X8_chanceOf_38 e_as f_X8_chanceOf_75
    rw [ix2, if_pos (nI_ix (by omega) (by omega)), nI_clamp (by omega), mc b hb e he]
    by_cases q : e = 0
    · subst q
      rw [if_neg (fun n => n rfl), if_pos rfl, ← Int32.sub_eq_add_neg, nI_sub ht]
    · rw [if_pos (show nI e ≠ 0 from nI_n (b := 0) q (by omega) (by decide)), if_neg q]
      by_cases q2 : e = 2
      · subst q2
        rw [if_neg (fun n => n rfl), if_pos rfl, nI_add]
      · rw [if_pos (show nI e ≠ 2 from nI_n (b := 2) q2 (by omega) (by decide)), if_neg q2, n0, nI_add, Nat.add_zero]
  have t5 : (5 : Int32).toNatClampNeg = 5 := rfl
  have d5 : nI fc / nI ti = nI (fc / ti) := nI_div (by omega) (by omega) (by omega)
  unfold f_X8_chanceOf e_as
  rw [ix, if_pos (nI_ix (by omega) (by omega)), nI_clamp (by omega), e_lt, t5, m5, if_pos (show ¬ nI ti = 0 from nI_ne0 (by omega) (by omega)), e_lt, d5]
  have r0 : I 85 (6 + 6 * b) = nI (CH b 0) := mc b hb 0 (by decide)
  rw [r0]
  unfold sh1 tb
  by_cases q : CH b 0 ≤ fc / ti
  · rw [if_pos ((nI_leI (by omega) (by omega)).mpr q), key _ (Nat.le_refl _), Nat.min_eq_left q]
  · rw [if_neg (fun n => q ((nI_leI (by omega) (by omega)).mp n)), key _ (by omega), Nat.min_eq_right (by omega)]
theorem hs_ind {b x : Nat} : ∀ c, hs (fun o => if o = b then x else 0) c = if b < c then x else 0
  | 0 => by rw [if_neg (by omega)]; rfl
  | c + 1 => by
    show hs (fun o => if o = b then x else 0) c + (if c = b then x else 0) = _
    rw [hs_ind c]
    by_cases q : c = b
    · rw [if_pos q, if_neg (by omega), if_pos (by omega)]
      omega
    · rw [if_neg q]
      by_cases q2 : b < c
      · rw [if_pos q2, if_pos (by omega)]
        omega
      · rw [if_neg q2, if_neg (by omega)]
def m_S92 (a _i : Nat) : Prop := a = 92
theorem sSh_lt {c ti kd b fc e : Nat} {CH : Nat → Nat → Nat} (h : ∀ b, b < c → hs (CH b) 6 = 20) (hb : b < c) (hc : c ≤ 9) (he : e < 6) : sSh c ti kd CH b fc e ≤ 180 := by
  have a := sSh_sum (ti := ti) (kd := kd) (fc := fc) h hb
  have k : hs (sSh c ti kd CH b fc) 6 ≤ 180 := by
    rw [a]
    split <;> omega
  have e1 : hs (sSh c ti kd CH b fc) 6 = 0 + sSh c ti kd CH b fc 0 + sSh c ti kd CH b fc 1 + sSh c ti kd CH b fc 2 + sSh c ti kd CH b fc 3 + sSh c ti kd CH b fc 4 + sSh c ti kd CH b fc 5 := rfl
  have c : e = 0 ∨ e = 1 ∨ e = 2 ∨ e = 3 ∨ e = 4 ∨ e = 5 := by omega
  rcases c with c | c | c | c | c | c <;> subst c <;> omega
def sPa (ti kd : Nat) (CH : Nat → Nat → Nat) (b fc e : Nat) (o : Nat) : Nat := if kd = 3 then CH o e else if o = b then sh1 ti CH b fc e else 0
theorem sPa_all {c ti kd b fc e : Nat} {CH : Nat → Nat → Nat} (hb : b < c) : hs (sPa ti kd CH b fc e) c = sSh c ti kd CH b fc e := by
  by_cases q : kd = 3
  · have e1 : sPa ti kd CH b fc e = fun o => CH o e := by
      funext o
      unfold sPa
      rw [if_pos q]
    unfold sSh
    rw [e1, if_pos q]
    rfl
  · have e1 : sPa ti kd CH b fc e = fun o => if o = b then sh1 ti CH b fc e else 0 := by
      funext o
      unfold sPa
      rw [if_neg q]
    unfold sSh
    rw [e1, if_neg q, hs_ind, if_pos hb]
theorem M_shares {I : e_I} {c s d f sl ti b fc kd : Nat} {CH : Nat → Nat → Nat} (hm : MV I c s d f sl ti CH) (hn : NV c s d f sl ti CH) (hb : b < c) (hk : kd < 4) (hf : fc < 2 ^ 30) : wp (f_X8_laysShares (nI kd) (nI b) (nI fc) I) (fun J => fr m_S92 I J ∧ ∀ e, e < 6 → J 92 e = nI (sSh c ti kd CH b fc e)) := by
  have c0 := hn.1
  unfold f_X8_laysShares
  refine wp_loop (F := fun n e J => f_X8_laysShares_3 (nI kd) (nI b) (nI fc) (fun J => some J) n (nI e) J) 6 (fun e J => fr m_S92 I J ∧ ∀ i, i < e → J 92 i = nI (sSh c ti kd CH b fc i)) ?_ ?_ e_FU 0 I (by omega) (wp_FU (by decide)) ⟨fr_rfl, fun _ h => by omega⟩
  · intro n J hP
    show wp (f_X8_laysShares_3 _ _ _ (fun J => some J) (n + 1) (nI 6) J) _
    rw [f_X8_laysShares_3]
    exact wp_t (by decide) (wp_some hP)
  · intro n e J he hP ih
    show wp (f_X8_laysShares_3 _ _ _ (fun J => some J) (n + 1) (nI e) J) _
    rw [f_X8_laysShares_3]
    refine wp_f (c_ge (N := 6) he (by decide)) (wp_as (nI_ix he (by omega)) (wp_let ?_))
    rw [nI_clamp (by omega)]
    refine wp_loop (F := fun n o K => f_X8_laysShares_21 (nI kd) (nI b) (nI fc) (nI e) (fun (I_4 : e_I) => e_let (nI e + 1) (fun (x_5 : Int32) => f_X8_laysShares_3 (nI kd) (nI b) (nI fc) (fun J => some J) _ x_5 I_4)) n (nI o) K) c (fun o K => (fr m_S92 I K ∧ ∀ i, i < e → K 92 i = nI (sSh c ti kd CH b fc i)) ∧ K 92 e = nI (hs (sPa ti kd CH b fc e) o)) ?_ ?_ e_FU 0 _ (by omega) (wp_FU (by omega)) ⟨⟨fr_tr hP.1 (fr_ui rfl), fun i hi => by rw [ui_i (show i ≠ e by omega)]; exact hP.2 i hi⟩, ui_s⟩
    · intro m K hK
      show wp (f_X8_laysShares_21 _ _ _ _ _ (m + 1) (nI c) K) _
      have k0 : K 85 (0 : Int32).toNatClampNeg = nI c := by rw [hK.1.1 85 _ (fun q => by cases q)]; exact hm.1
      rw [f_X8_laysShares_21, k0]
      refine wp_t (Int32.le_refl _) (wp_let ?_)
      rw [nI_1]
      refine ih K ⟨hK.1.1, fun i hi => ?_⟩
      by_cases q : i = e
      · subst q
        rw [hK.2, sPa_all hb]
      · exact hK.1.2 i (by omega)
    · intro m o K ho hK ih2
      show wp (f_X8_laysShares_21 _ _ _ _ _ (m + 1) (nI o) K) _
      have k0 : K 85 (0 : Int32).toNatClampNeg = nI c := by rw [hK.1.1 85 _ (fun q => by cases q)]; exact hm.1
      have hmK : MV K c s d f sl ti CH := MV_85 (fun i => hK.1.1 85 i (fun q => by cases q)) hm
      have cl : (nI e).toNatClampNeg = e := nI_clamp (by omega)
      have put : ∀ x, x = sPa ti kd CH b fc e o → wp (f_X8_laysShares_82 (nI kd) (nI b) (nI fc) (nI e) (fun v5 I => f_X8_laysShares_21 (nI kd) (nI b) (nI fc) (nI e) (fun (I_4 : e_I) => e_let (nI e + 1) (fun (x_5 : Int32) => f_X8_laysShares_3 (nI kd) (nI b) (nI fc) (fun J => some J) n x_5 I_4)) m v5 I) (fun (I_4 : e_I) => e_let (nI e + 1) (fun (x_5 : Int32) => f_X8_laysShares_3 (nI kd) (nI b) (nI fc) (fun J => some J) n x_5 I_4)) (nI o) (nI x) (K 92 (nI e).toNatClampNeg) (nI e) K) (fun J => fr m_S92 I J ∧ ∀ e, e < 6 → J 92 e = nI (sSh c ti kd CH b fc e)) := fun x hx => by
        unfold f_X8_laysShares_82
        refine wp_as (nI_ix he (by omega)) (wp_let (wp_let ?_))
        rw [cl, nI_1 o, hK.2, nI_add]
        refine ih2 (e_ui K 92 e (nI (hs (sPa ti kd CH b fc e) o + x))) ⟨⟨fr_tr hK.1.1 (fr_ui rfl), fun i hi => by rw [ui_i (show i ≠ e by omega)]; exact hK.1.2 i hi⟩, ?_⟩
        rw [ui_s, hx]
        rfl
      rw [f_X8_laysShares_21, k0]
      refine wp_f (c_ge ho (by omega)) (wp_as (nI_ix he (by omega)) ?_)
      by_cases q : kd = 3
      · refine wp_f (fun n => n (by rw [q]; rfl)) ?_
        have ix : (6 : Int32) + (6 : Int32) * nI o + nI e = nI (6 + 6 * o + e) := by rw [n6, nI_mul, nI_add, nI_add]
        rw [ix]
        refine wp_as (nI_ix (by omega) (by omega)) ?_
        rw [nI_clamp (n := 6 + 6 * o + e) (by omega), hmK.2.2.2.2 o ho e he]
        refine put _ ?_
        unfold sPa
        rw [if_pos q]
      · refine wp_t (nI_n (b := 3) q (by omega) (by decide)) ?_
        by_cases q2 : o = b
        · subst q2
          refine wp_f (fun n => n rfl) (wp_e1 (M_chance hmK hn ho he hf) ?_)
          refine put _ ?_
          unfold sPa
          rw [if_neg q, if_pos rfl]
        · refine wp_t (nI_n q2 (by omega) (by omega)) ?_
          refine put 0 ?_
          unfold sPa
          rw [if_neg q, if_neg q2]
-- all levels
def shl (c ti kd k fi fc : Nat) (CH : Nat → Nat → Nat) (OR : Nat → Nat) (j : Nat) : Nat → Nat := sSh c ti kd CH (OR ((fi + (k - j)) % c)) (fc + (k - j))
def m_S3 (a i : Nat) : Prop := (a = 83 ∧ 19 ≤ i ∧ i ≤ 21) ∨ a = 91 ∨ a = 92
def m_SL (a i : Nat) : Prop := a = 89 ∨ a = 90 ∨ (a = 83 ∧ i = 26)
def M_laid (s d f c sl ti kd k fi fc : Nat) (CH : Nat → Nat → Nat) (OR : Nat → Nat) (j : Nat) (J : e_I) (M : e_L) : Prop := M 83 26 = lN (sSc c kd ^ j) ∧ (∀ st, st < 24 → M 89 st = lN (LV s d f c sl ti kd k fi fc CH OR j st)) ∧ (∀ j', j = j' + 1 → (∀ st, st < 24 → M 90 st = lN (LV s d f c sl ti kd k fi fc CH OR j' st)) ∧ (∀ e, e < 6 → J 92 e = nI (shl c ti kd k fi fc CH OR (j' + 1) e)) ∧ (kd = 2 → ∀ st, st < 24 → J 91 st = nI (sC s d f (sSc c kd ^ j') sl (LV s d f c sl ti kd k fi fc CH OR j') (shl c ti kd k fi fc CH OR (j' + 1)) st)))
theorem M_scale {I : e_I} {c kd : Nat} (h : I 85 0 = nI c) (hk : kd < 4) (hc : c ≤ 9) : f_X8_scale (nI kd) I = some (lN (sSc c kd)) := by
  unfold f_X8_scale f_X8_scale_33 sSc
  by_cases q : kd = 2
  · subst q
    rw [if_neg (fun n => n rfl), if_pos rfl]
    rfl
  · rw [if_pos (show nI kd ≠ 2 from nI_n (b := 2) q (by omega) (by decide)), if_neg q]
    by_cases q2 : kd = 3
    · subst q2
      have e : I 85 (0 : Int32).toNatClampNeg = nI c := h
      rw [if_neg (fun n => n rfl), if_pos rfl, e, l20, nI_l (by omega), lN_mul]
    · rw [if_pos (show nI kd ≠ 3 from nI_n (b := 3) q2 (by omega) (by decide)), if_neg q2]
      rfl
theorem M_bnd {s d f c sl ti kd k fi fc j b0 f0 : Nat} {CH : Nat → Nat → Nat} {OR : Nat → Nat} (hn : (0 < c ∧ c ≤ 9) ∧ RV s d f ∧ sl ≤ 20 ∧ ∀ b, b < c → hs (CH b) 6 = 20) (hO : ∀ i, i < c → OR i < c) (hj : j ≤ 4) (hb : b0 < c) : M_b s d f (sSc c kd ^ j) (LV s d f c sl ti kd k fi fc CH OR j) (sSh c ti 2 CH b0 f0) ∧ ∀ st, st < 24 → sT s d f (sSc c kd ^ j) sl (LV s d f c sl ti kd k fi fc CH OR j) (sSh c ti 2 CH b0 f0) st < 2 ^ 63 := by
  obtain ⟨⟨c0, c9⟩, hr, hsl, hCH⟩ := hn
  have hV := fun q (_ : q ≤ 24) => LV_lt (k := k) (fi := fi) (fc := fc) (ti := ti) (kd := kd) hr hsl c0 c9 hCH hO (show j ≤ 5 by omega) q
  have hu := sSc_pow (c := c) (kd := kd) c9 (show j ≤ 5 by omega)
  have h20 : hs (sSh c ti 2 CH b0 f0) 6 = 20 := sSh_sum (kd := 2) hCH hb
  have p58 : (2 : Nat) ^ 58 = 288230376151711744 := by decide
  have p63 : (2 : Nat) ^ 63 = 9223372036854775808 := by decide
  refine ⟨fun st hs1 => ?_, fun st hs1 => ?_⟩
  · have a := sH_le (any := false) (u := sSc c kd ^ j) (sh := sSh c ti 2 CH b0 f0) hr hs1 hV
    have b := sB_le (u := sSc c kd ^ j) hr hs1 hV
    rw [h20] at a
    omega
  · have a := sT_le (u := sSc c kd ^ j) (sl := sl) hr hs1 hsl hV h20
    omega
theorem M_out {I : e_I} {L : e_L} {a3 c s d f sl0 sl ti kd k at0 fi fc : Nat} {CH : Nat → Nat → Nat} {OR : Nat → Nat} (hm : MV I c s d f sl0 ti CH) (hn : NV c s d f sl0 ti CH) (h27 : kd = 2 → I 83 27 = nI sl) (hsl : sl ≤ 20) (ha : a3 = 85 ∨ a3 = 93) (hln : at0 + c ≤ e_ln a3) (hln2 : at0 < 1000) (hO : ∀ i, i < c → I a3 (at0 + i) = nI (OR i) ∧ OR i < c) (hk : kd < 4) (k1 : k ≤ 5) (hfi : fi < 1000) (hfc : fc < 100000) : wp (f_X8_laysOut a3 (nI kd) (nI k) (nI at0) (nI fi) (nI fc) I L) (fun p => fr m_S3 I p.1 ∧ frL m_SL L p.2 ∧ M_laid s d f c sl ti kd k fi fc CH OR k p.1 p.2) := by
  obtain ⟨⟨c0, c9⟩, hr, hsl0, ⟨t1, t99⟩, hCH⟩ := id hn
  have hO2 : ∀ i, i < c → OR i < c := fun i hi => (hO i hi).2
  unfold f_X8_laysOut
  refine wp_let ?_
  -- all values are 0 at first
  refine wp_loop (F := fun n st (p : e_I × e_L) => f_X8_laysOut_8 a3 (nI kd) (nI k) (nI at0) (nI fi) (nI fc) (fun (I_2 : e_I) (L_3 : e_L) => f_X8_laysOut_32 a3 (nI kd) (nI k) (nI at0) (nI fi) (nI fc) (fun (I_4 : e_I) (L_5 : e_L) => some (I_4, L_5)) e_FU 1 I_2 L_3) n (nI st) p.1 p.2) 24 (fun st p => p.1 = I ∧ frL m_SL L p.2 ∧ p.2 83 26 = lN 1 ∧ ∀ i, i < st → p.2 89 i = lN 0) ?_ ?_ e_FU 0 (I, e_ul L 83 26 1) (by omega) (wp_FU (by decide)) ⟨rfl, frL_ul (Or.inr (Or.inr ⟨rfl, rfl⟩)), (ul_s (I := L) (a := 83) (i := 26) (x := 1)), fun _ h => by omega⟩
  · intro n p hP
    obtain ⟨p1, p2, p3, p4⟩ := hP
    show wp (f_X8_laysOut_8 a3 _ _ _ _ _ _ (n + 1) (nI 24) p.1 p.2) _
    rw [f_X8_laysOut_8]
    refine wp_t (by decide) ?_
    rw [p1]
    refine wp_loop (F := fun n j (p : e_I × e_L) => f_X8_laysOut_32 a3 (nI kd) (nI k) (nI at0) (nI fi) (nI fc) (fun (I_4 : e_I) (L_5 : e_L) => some (I_4, L_5)) n (nI (j + 1)) p.1 p.2) k (fun j p => fr m_S3 I p.1 ∧ frL m_SL L p.2 ∧ M_laid s d f c sl ti kd k fi fc CH OR j p.1 p.2) ?_ ?_ e_FU 0 (I, p.2) (by omega) (wp_FU (by omega)) ⟨fr_rfl, p2, p3, fun st hst => p4 st hst, fun j' e => by omega⟩
    · intro n q hQ
      show wp (f_X8_laysOut_32 a3 _ _ _ _ _ _ (n + 1) (nI (k + 1)) q.1 q.2) _
      rw [f_X8_laysOut_32]
      exact wp_t (nI_lt (by omega) (by omega)) (wp_some hQ)
    · intro n j q hj hQ ih
      obtain ⟨q1, q2, q3, q4, q5⟩ := hQ
      show wp (f_X8_laysOut_32 a3 _ _ _ _ _ _ (n + 1) (nI (j + 1)) q.1 q.2) _
      rw [f_X8_laysOut_32]
      refine wp_f (nI_nlt (by omega) (by omega)) ?_
      -- before := value
      refine wp_loop (F := fun m st (p : e_I × e_L) => f_X8_laysOut_41 a3 (nI kd) (nI k) (nI at0) (nI fi) (nI fc) (nI (j + 1)) _ m (nI st) p.1 p.2) 24 (fun st p => p.1 = q.1 ∧ frL (fun a _ => a = 90) q.2 p.2 ∧ ∀ i, i < st → p.2 90 i = q.2 89 i) ?_ ?_ e_FU 0 q (by omega) (wp_FU (by decide)) ⟨rfl, frL_rfl, fun _ h => by omega⟩
      · intro m p hP
        obtain ⟨r1, r2, r3⟩ := hP
        show wp (f_X8_laysOut_41 a3 _ _ _ _ _ _ _ (m + 1) (nI 24) p.1 p.2) _
        rw [f_X8_laysOut_41]
        refine wp_t (by decide) (wp_let ?_)
        rw [r1]
        have x1 : nI k - nI (j + 1) = nI (k - (j + 1)) := nI_sub (by omega)
        have hm1 : MV q.1 c s d f sl0 ti CH := MV_85 (fun i => q1 85 i (fun z => by rcases z with z | z | z <;> omega)) hm
        have k0 : q.1 85 (0 : Int32).toNatClampNeg = nI c := hm1.1
        rw [x1, nI_add, k0, nI_rm (by omega) (by omega) (by omega), nI_add, nI_add]
        have hmod : (fi + (k - (j + 1))) % c < c := Nat.mod_lt _ c0
        refine wp_as (nI_ne0 (by omega) (by omega)) (wp_as (nI_ix (by omega) (by omega)) ?_)
        rw [nI_clamp (by omega), q1 a3 _ (fun z => by rcases z with z | z | z <;> omega), (hO _ hmod).1]
        refine wp_c1 (M_shares hm1 hn (hO2 _ hmod) hk (by omega)) (fun J hJ => ?_)
        -- the states
        have hb2 := M_bnd (s := s) (d := d) (f := f) (sl := sl) (ti := ti) (kd := kd) (k := k) (fi := fi) (fc := fc) (j := j) (f0 := fc + (k - (j + 1))) ⟨⟨c0, c9⟩, hr, hsl, hCH⟩ hO2 (by omega) (hO2 _ hmod)
        have sL : ∀ e, e < 6 → shl c ti kd k fi fc CH OR (j + 1) e < 2 ^ 31 := fun e he => by
          have := sSh_lt (ti := ti) (kd := kd) (fc := fc + (k - (j + 1))) hCH (hO2 _ hmod) c9 he
          unfold shl
          omega
        have fJ : ∀ a i, a ≠ 92 → J a i = q.1 a i := fun a i h => hJ.1 a i h
        have hmJ : MV J c s d f sl0 ti CH := MV_85 (fun i => fJ 85 i (by decide)) hm1
        have hL : M_L p.2 (sSc c kd ^ j) (LV s d f c sl ti kd k fi fc CH OR j) := ⟨by rw [r2 83 26 (by decide)]; exact q3, LV_over j, fun st hst => by rw [r3 st hst]; exact q4 st hst⟩
        have hh : M_sh J (shl c ti kd k fi fc CH OR (j + 1)) := fun e he => ⟨hJ.2 e he, sL e he⟩
        have hJ27 : kd = 2 → J 83 27 = nI sl := fun z2 => by rw [fJ 83 27 (by decide), q1 83 27 (fun z => by rcases z with z | z | z <;> omega)]; exact h27 z2
        refine wp_loop (F := fun m st (p : e_I × e_L) => f_X8_laysOut_104 a3 (nI kd) (nI k) (nI at0) (nI fi) (nI fc) (nI (j + 1)) _ m (nI st) p.1 p.2) 24 (fun st w => fr m_S2 J w.1 ∧ frL (fun a _ => a = 89) p.2 w.2 ∧ ∀ i, i < st → w.2 89 i = lN (sK s d f (sSc c kd ^ j) sl kd (LV s d f c sl ti kd k fi fc CH OR j) (shl c ti kd k fi fc CH OR (j + 1)) i) ∧ (kd = 2 → w.1 91 i = nI (sC s d f (sSc c kd ^ j) sl (LV s d f c sl ti kd k fi fc CH OR j) (shl c ti kd k fi fc CH OR (j + 1)) i))) ?_ ?_ e_FU 0 (J, p.2) (by omega) (wp_FU (by decide)) ⟨fr_rfl, frL_rfl, fun _ h => by omega⟩
        · intro m2 w hW
          obtain ⟨w1, w2, w3⟩ := hW
          show wp (f_X8_laysOut_104 a3 _ _ _ _ _ _ _ (m2 + 1) (nI 24) w.1 w.2) _
          rw [f_X8_laysOut_104]
          have w85 : ∀ i, w.1 85 i = J 85 i := fun i => w1 85 i (fun z => by rcases z with z | z <;> omega)
          refine wp_t (by decide) (wp_e1 (M_scale (c := c) (by rw [w85]; exact hmJ.1) hk c9) (wp_let (wp_let ?_)))
          rw [nI_1 (j + 1)]
          have u26 : w.2 83 26 = lN (sSc c kd ^ j) := by rw [w2 83 26 (by decide)]; exact hL.1
          refine ih (w.1, e_ul w.2 83 26 (w.2 83 26 * lN (sSc c kd))) ⟨?_, ?_, ?_, ?_, ?_⟩
          · intro a i z
            show w.1 a i = I a i
            rw [w1 a i (fun y => z (by rcases y with y | y; exact Or.inl y; exact Or.inr (Or.inl y))), fJ a i (fun y => z (Or.inr (Or.inr y))), q1 a i z]
          · refine frL_tr (J := w.2) (fun a i z => ?_) (frL_ul (Or.inr (Or.inr ⟨rfl, rfl⟩)))
            rw [w2 a i (fun y => z (Or.inl y)), r2 a i (fun y => z (Or.inr (Or.inl y))), q2 a i z]
          · show e_ul w.2 83 26 (w.2 83 26 * lN (sSc c kd)) 83 26 = _
            rw [ul_s, u26, lN_mul, ← Nat.pow_succ]
          · intro st hst
            show e_ul w.2 83 26 (w.2 83 26 * lN (sSc c kd)) 89 st = _
            rw [ul_a (show (89 : Nat) ≠ 83 by decide), (w3 st hst).1]
            show _ = lN (if st < 24 then _ else 0)
            rw [if_pos hst]
            rfl
          · intro j' e
            have ej : j' = j := by omega
            subst ej
            refine ⟨fun st hst => ?_, fun e he => ?_, fun hk2 st hst => ?_⟩
            · show e_ul w.2 83 26 (w.2 83 26 * lN (sSc c kd)) 90 st = _
              rw [ul_a (show (90 : Nat) ≠ 83 by decide), w2 90 st (show ¬ (90 : Nat) = 89 by decide)]
              exact hL.2.2 st hst
            · show w.1 92 e = _
              rw [w1 92 e (fun z => by rcases z with z | z <;> omega)]
              exact (hh e he).1
            · exact (w3 st hst).2 hk2
        · intro m2 st w hst hW ih3
          obtain ⟨w1, w2, w3⟩ := hW
          show wp (f_X8_laysOut_104 a3 _ _ _ _ _ _ _ (m2 + 1) (nI st) w.1 w.2) _
          rw [f_X8_laysOut_104]
          refine wp_f (c_ge (N := 24) hst (by decide)) ?_
          have hLw : M_L w.2 (sSc c kd ^ j) (LV s d f c sl ti kd k fi fc CH OR j) := ⟨by rw [w2 83 26 (by decide)]; exact hL.1, LV_over j, fun i hi => by rw [w2 90 i (show ¬ (90 : Nat) = 89 by decide)]; exact hL.2.2 i hi⟩
          have hcw : M_c w.1 s d f := M_c_fr2 w1 hmJ.2.1
          have hhw := M_sh_fr2 w1 hh
          have lay : wp (f_X8_laysState (nI st) (nI kd) w.1 w.2) (M_lst s d f (sSc c kd ^ j) sl kd (LV s d f c sl ti kd k fi fc CH OR j) (shl c ti kd k fi fc CH OR (j + 1)) st w.1 w.2) := by
            by_cases z : kd = 2
            · subst z
              exact M_st2 hr hcw hLw hhw hb2.1 hsl (M_by_S w1 (hJ27 rfl)) hst (hb2.2 st hst)
            · exact M_st1 hr hcw hLw hhw hst hk z
          refine wp_c2 lay (fun J2 M2 h2 => wp_let ?_)
          rw [nI_1 st]
          refine ih3 (J2, M2) ⟨fr_tr w1 h2.1.1, frL_tr w2 (frL_mono (fun a i z => z.1) h2.2.2.2), fun i hi => ?_⟩
          by_cases z : i = st
          · subst z
            exact ⟨h2.2.2.1, h2.2.1⟩
          · have o := w3 i (by omega)
            refine ⟨?_, fun hk2 => ?_⟩
            · show M2 89 i = _
              exact (h2.2.2.2 89 i (fun y => z y.2)).trans o.1
            · show J2 91 i = _
              exact (h2.1.2 i z).trans (o.2 hk2)
      · intro m st p hst hP ih2
        obtain ⟨r1, r2, r3⟩ := hP
        show wp (f_X8_laysOut_41 a3 _ _ _ _ _ _ _ (m + 1) (nI st) p.1 p.2) _
        rw [f_X8_laysOut_41]
        refine wp_f (c_ge (N := 24) hst (by decide)) (wp_as (nI_ix hst (by omega)) (wp_as (nI_ix hst (by omega)) (wp_let (wp_let ?_))))
        rw [nI_1 st, nI_clamp (by omega)]
        refine ih2 (p.1, e_ul p.2 90 st (p.2 89 st)) ⟨r1, frL_tr r2 (frL_ul rfl), fun i hi => ?_⟩
        show e_ul p.2 90 st _ 90 i = _
        by_cases z : i = st
        · subst z
          rw [ul_s, r2 89 i (show ¬ (89 : Nat) = 90 by decide)]
        · rw [ul_i z]
          exact r3 i (by omega)
  · intro n st p hst hP ih
    obtain ⟨p1, p2, p3, p4⟩ := hP
    show wp (f_X8_laysOut_8 a3 _ _ _ _ _ _ (n + 1) (nI st) p.1 p.2) _
    rw [f_X8_laysOut_8]
    refine wp_f (c_ge (N := 24) hst (by decide)) (wp_as (nI_ix hst (by omega)) (wp_let (wp_let ?_)))
    rw [nI_1 st, nI_clamp (by omega)]
    refine ih (p.1, e_ul p.2 89 st 0) ⟨p1, frL_tr p2 (frL_ul (Or.inl rfl)), ?_, fun i hi => ?_⟩
    · show e_ul p.2 89 st 0 83 26 = _
      rw [ul_a (show (83 : Nat) ≠ 89 by decide)]
      exact p3
    · show e_ul p.2 89 st 0 89 i = _
      by_cases z : i = st
      · subst z
        rw [ul_s]
        rfl
      · rw [ul_i z]
        exact p4 i (by omega)
