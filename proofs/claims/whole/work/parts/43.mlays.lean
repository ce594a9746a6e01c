-- THE MODEL reckons what is to come
def m_S (a i : Nat) : Prop := a = 83 ∧ 19 ≤ i ∧ i ≤ 21
theorem m_wfr {I : e_I} {b o r : Int32} : fr m_S I (m_w I b o r) := fr_tr (fr_ui ⟨rfl, by decide, by decide⟩) (fr_tr (fr_ui ⟨rfl, by decide, by decide⟩) (fr_ui ⟨rfl, by decide, by decide⟩))
theorem m_Sa {a i : Nat} (h : a ≠ 83) : ¬ m_S a i := fun q => h q.1
def M_c (I : e_I) (s d f : Nat) : Prop := I 85 1 = nI s ∧ I 85 2 = nI d ∧ I 85 3 = nI f
theorem M_c_fr {I J : e_I} {s d f : Nat} (h : fr m_S I J) (hc : M_c I s d f) : M_c J s d f := by
  unfold M_c
  rw [h 85 1 (m_Sa (by decide)), h 85 2 (m_Sa (by decide)), h 85 3 (m_Sa (by decide))]
  exact hc
def M_L (L : e_L) (u : Nat) (V : Nat → Nat) : Prop := L 83 26 = lN u ∧ V 24 = 0 ∧ ∀ st, st < 24 → L 90 st = lN (V st)
theorem nI_n {a b : Nat} (h : a ≠ b) (ha : a < 2 ^ 31) (hb : b < 2 ^ 31) : nI a ≠ nI b := fun q => h ((nI_eq ha hb).mp q)
theorem M_behind {I : e_I} {L : e_L} {s d f u e st kd : Nat} {V : Nat → Nat} (h : RV s d f) (hc : M_c I s d f) (hL : M_L L u V) (he : e < 9) (hs : st < 24) (hk : kd < 4) : wp (f_X8_behind (nI (st % 8)) (nI (st / 8)) (nI e) (nI kd) I L) (fun p => p.1 = lN (sG s d f (kd == 1) u V e st) ∧ fr m_S I p.2) := by
  obtain ⟨x1, x2, x3, x4, x5, x6⟩ := m_f1 h he hs
  unfold f_X8_behind
  refine wp_e1 (m_view h hc.1 hc.2.1 hc.2.2 he hs) ?_
  rw [m_w20, m_w19]
  have tail : ∀ rest : Nat, rest = V (mB s d f e st) → wp (f_X8_behind_36 L (nI kd) (lN rest) (m_w I (nI (mA s d f e st)) (nI (mO e st)) (nI (mR s d f e st)))) (fun p => p.1 = lN (sG s d f (kd == 1) u V e st) ∧ fr m_S I p.2) := fun rest hr => by
    unfold f_X8_behind_36
    by_cases q : kd = 1
    · subst q
      refine wp_f (fun n => n rfl) ?_
      rw [m_w21]
      by_cases z : mR s d f e st = 0
      · refine wp_t (by rw [z]; decide) (wp_some ⟨?_, m_wfr⟩)
        show lN rest = _
        unfold sG
        rw [if_neg (by omega), z, hr, Nat.zero_mul, Nat.zero_add]
      · refine wp_f (nI_nle (by omega) (by omega)) (wp_some ⟨?_, m_wfr⟩)
        show L 83 26 = _
        unfold sG
        rw [hL.1, if_pos ⟨rfl, by omega⟩]
    · refine wp_t (nI_n (b := 1) q (by omega) (by decide)) (wp_some ⟨?_, m_wfr⟩)
      show (m_w I _ _ _ 83 21).toInt64 * L 83 26 + lN rest = _
      unfold sG
      rw [m_w21, hL.1, nI_l (by omega), lN_mul, lN_add, if_neg (fun z => q (by simpa using z.1)), hr]
  by_cases q : mO e st = 3
  · refine wp_f (fun n => n (by rw [q]; rfl)) ?_
    exact tail 0 (by unfold mB; rw [if_pos q, hL.2.1])
  · refine wp_t (nI_n (b := 3) q (by omega) (by decide)) ?_
    have ix : (8 : Int32) * nI (mO e st) + nI (mA s d f e st) = nI (8 * mO e st + mA s d f e st) := by rw [n8, nI_mul, nI_add]
    rw [ix]
    refine wp_as (nI_ix (by omega) (by omega)) ?_
    rw [nI_clamp (by omega), hL.2.2 _ (by omega)]
    exact tail _ (by unfold mB; rw [if_neg q])
def M_sh (I : e_I) (sh : Nat → Nat) : Prop := ∀ e, e < 6 → I 92 e = nI (sh e) ∧ sh e < 2 ^ 31
theorem M_sh_fr {I J : e_I} {sh : Nat → Nat} (h : fr m_S I J) (hc : M_sh I sh) : M_sh J sh := fun e he => by
  rw [h 92 e (m_Sa (by decide))]
  exact hc e he
theorem M_hits {I : e_I} {L : e_L} {s d f u st kd : Nat} {V sh : Nat → Nat} (h : RV s d f) (hc : M_c I s d f) (hL : M_L L u V) (hh : M_sh I sh) (hs1 : st < 24) (hk : kd < 4) : wp (f_X8_hits (nI (st % 8)) (nI (st / 8)) (nI kd) I L) (fun p => p.1 = lN (sH s d f (kd == 1) u V sh st) ∧ fr m_S I p.2) := by
  unfold f_X8_hits
  refine wp_loop (F := fun n e (p : Int64 × e_I) => f_X8_hits_6 L (nI (st % 8)) (nI (st / 8)) (nI kd) (fun v4 I => some (v4, I)) n p.1 (nI e) p.2) 6 (fun e p => p.1 = lN (hs (fun e => sh e * sG s d f (kd == 1) u V e st) e) ∧ fr m_S I p.2) ?_ ?_ e_FU 0 (0, I) (by omega) (wp_FU (by decide)) ⟨rfl, fr_rfl⟩
  · intro n p hP
    show wp (f_X8_hits_6 L _ _ _ (fun v4 I => some (v4, I)) (n + 1) p.1 (nI 6) p.2) _
    rw [f_X8_hits_6]
    exact wp_t (by decide) (wp_some hP)
  · intro n e p he hP ih
    show wp (f_X8_hits_6 L _ _ _ (fun v4 I => some (v4, I)) (n + 1) p.1 (nI e) p.2) _
    rw [f_X8_hits_6]
    refine wp_f (c_ge (N := 6) he (by decide)) (wp_as (nI_ix he (by omega)) ?_)
    refine wp_c2 (M_behind h (M_c_fr hP.2 hc) hL (by omega) hs1 hk) (fun r J hr => ?_)
    refine wp_let (wp_let ?_)
    rw [nI_1]
    refine ih (_, J) ⟨?_, fr_tr hP.2 hr.2⟩
    show p.1 + (p.2 92 (nI e).toNatClampNeg).toInt64 * r = _
    rw [nI_clamp (by omega), hP.2 92 e (m_Sa (by decide)), (hh e he).1, nI_l (hh e he).2, hP.1, show r = lN (sG s d f (kd == 1) u V e st) from hr.1, lN_mul, lN_add]
    rfl
theorem M_bunts {I : e_I} {L : e_L} {s d f u st : Nat} {V : Nat → Nat} (h : RV s d f) (hc : M_c I s d f) (hL : M_L L u V) (hs1 : st < 24) : wp (f_X8_bunts (nI (st % 8)) (nI (st / 8)) I L) (fun p => p.1 = lN (sB s d f u V st) ∧ fr m_S I p.2) := by
  unfold f_X8_bunts
  refine wp_c2 (M_behind (e := 6) (kd := 2) h hc hL (by decide) hs1 (by decide)) (fun r J hr => wp_some ⟨?_, hr.2⟩)
  show (20 : Int64) * r = _
  rw [show r = lN (sG s d f false u V 6 st) from hr.1, l20, lN_mul]
  rfl
def M_b (s d f u : Nat) (V sh : Nat → Nat) : Prop := ∀ st, st < 24 → sH s d f false u V sh st < 2 ^ 58 ∧ sB s d f u V st < 2 ^ 58
theorem sW_lt {s d f u st : Nat} {V sh : Nat → Nat} (hb : M_b s d f u V sh) (h : st ≤ 24) : sW s d f u V sh st < 2 ^ 58 := by
  unfold sW
  by_cases c : st = 24
  · rw [if_pos c]
    decide
  · rw [if_neg c]
    have a := hb st (by omega)
    by_cases q : mC 6 st = true
    · rw [if_pos q]
      omega
    · rw [if_neg q]
      exact a.1
theorem sW_in {s d f u st : Nat} {V sh : Nat → Nat} (h : st < 24) : sW s d f u V sh st = if mC 6 st = true then max (sH s d f false u V sh st) (sB s d f u V st) else sH s d f false u V sh st := by
  have n : ¬ st = 24 := by omega
  unfold sW
  rw [if_neg n]
theorem M_sw {I : e_I} {L : e_L} {s d f u st : Nat} {V sh : Nat → Nat} (h : RV s d f) (hc : M_c I s d f) (hL : M_L L u V) (hh : M_sh I sh) (hb : M_b s d f u V sh) (hs1 : st < 24) : wp (f_X8_hitsOrBunts (nI (st % 8)) (nI (st / 8)) I L) (fun p => p.1 = lN (sW s d f u V sh st) ∧ fr m_S I p.2) := by
  obtain ⟨b1, b2⟩ := hb st hs1
  unfold f_X8_hitsOrBunts
  refine wp_t (nI_n (b := 3) (by omega) (by omega) (by decide)) ?_
  refine wp_c2 (M_hits (kd := 2) h hc hL hh hs1 (by decide)) (fun r J hr => ?_)
  refine wp_e1 (m_canBe_all 6 (by decide) st hs1) ?_
  have r1 : r = lN (sH s d f false u V sh st) := hr.1
  rw [sW_in hs1]
  by_cases q : mC 6 st = true
  · rw [if_pos q, if_pos q]
    refine wp_f (by decide) ?_
    refine wp_c2 (M_bunts h (M_c_fr hr.2 hc) hL hs1) (fun r2 K h2 => ?_)
    have r3 : r2 = lN (sB s d f u V st) := h2.1
    unfold f_X8_hitsOrBunts_35
    rw [r1, r3]
    by_cases z : sB s d f u V st ≤ sH s d f false u V sh st
    · refine wp_t ((lN_cmp (by omega) (by omega)).mpr z) (wp_some ⟨?_, fr_tr hr.2 h2.2⟩)
      rw [Nat.max_eq_left z]
    · refine wp_f (fun n => z ((lN_cmp (by omega) (by omega)).mp n)) (wp_some ⟨?_, fr_tr hr.2 h2.2⟩)
      rw [Nat.max_eq_right (by omega)]
  · rw [if_neg q, if_neg q]
    refine wp_t rfl ?_
    unfold f_X8_hitsOrBunts_35
    rw [r1]
    exact wp_t ((lN_cmp (a := 0) (by omega) (by omega)).mpr (by omega)) (wp_some ⟨rfl, hr.2⟩)
theorem M_sw2 {I : e_I} {L : e_L} {s d f u e st : Nat} {V sh : Nat → Nat} (h : RV s d f) (hc : M_c I s d f) (hL : M_L L u V) (hh : M_sh I sh) (hb : M_b s d f u V sh) (he : e < 9) (hs1 : st < 24) : wp (f_X8_hitsOrBunts (nI (mA s d f e st)) (nI (mO e st)) I L) (fun p => p.1 = lN (sW s d f u V sh (mB s d f e st)) ∧ fr m_S I p.2) := by
  obtain ⟨x1, x2, x3, x4, x5, x6⟩ := m_f1 h he hs1
  unfold mB
  by_cases q : mO e st = 3
  · rw [if_pos q, q]
    unfold f_X8_hitsOrBunts
    exact wp_f (fun n => n rfl) (wp_some ⟨rfl, fr_rfl⟩)
  · rw [if_neg q]
    have k := M_sw (st := 8 * mO e st + mA s d f e st) h hc hL hh hb (by omega)
    have e1 : (8 * mO e st + mA s d f e st) % 8 = mA s d f e st := by omega
    have e2 : (8 * mO e st + mA s d f e st) / 8 = mO e st := by omega
    rwa [e1, e2] at k
theorem M_steals {I : e_I} {L : e_L} {s d f u sl st : Nat} {V sh : Nat → Nat} (h : RV s d f) (hc : M_c I s d f) (hL : M_L L u V) (hh : M_sh I sh) (hb : M_b s d f u V sh) (hsl : sl ≤ 20) (h27 : I 83 27 = nI sl) (hs1 : st < 24) : wp (f_X8_steals (nI (st % 8)) (nI (st / 8)) I L) (fun p => p.1 = lN (sT s d f u sl V sh st) ∧ fr m_S I p.2) := by
  unfold f_X8_steals
  refine wp_e1 (m_view (e := 7) h hc.1 hc.2.1 hc.2.2 (by decide) hs1) ?_
  rw [m_w19, m_w20]
  refine wp_c2 (M_sw2 (e := 7) h (M_c_fr m_wfr hc) hL (M_sh_fr m_wfr hh) hb (by decide) hs1) (fun r J hr => ?_)
  have f1 : fr m_S I J := fr_tr m_wfr hr.2
  have hc2 := M_c_fr f1 hc
  refine wp_e1 (m_view (e := 8) h hc2.1 hc2.2.1 hc2.2.2 (by decide) hs1) ?_
  rw [m_w19, m_w20]
  refine wp_c2 (M_sw2 (e := 8) h (M_c_fr m_wfr hc2) hL (M_sh_fr (fr_tr f1 m_wfr) hh) hb (by decide) hs1) (fun r2 K h2 => ?_)
  have f2 : fr m_S I K := fr_tr f1 (fr_tr m_wfr h2.2)
  refine wp_some ⟨?_, f2⟩
  have k27 : K 83 27 = nI sl := by
    rw [f2 83 27 (fun q => by have := q.2.2; omega)]
    exact h27
  show (K 83 27).toInt64 * r + ((20 : Int32) - K 83 27).toInt64 * r2 = _
  have a1 : r = lN (sW s d f u V sh (mB s d f 7 st)) := hr.1
  have a2 : r2 = lN (sW s d f u V sh (mB s d f 8 st)) := h2.1
  rw [k27, n20, nI_sub hsl, nI_l (by omega), nI_l (by omega), a1, a2, lN_mul, lN_mul, lN_add]
  rfl
def sBy (s d f u sl how : Nat) (V sh : Nat → Nat) (st : Nat) : Nat := if how = 0 then 20 * sH s d f false u V sh st else if how = 1 then 20 * sB s d f u V st else sT s d f u sl V sh st
theorem M_by {I : e_I} {L : e_L} {s d f u sl st how : Nat} {V sh : Nat → Nat} (h : RV s d f) (hc : M_c I s d f) (hL : M_L L u V) (hh : M_sh I sh) (hb : M_b s d f u V sh) (hsl : sl ≤ 20) (h27 : I 83 27 = nI sl) (hs1 : st < 24) (hw : how < 3) : wp (f_X8_by (nI how) (nI (st % 8)) (nI (st / 8)) I L) (fun p => p.1 = lN (sBy s d f u sl how V sh st) ∧ fr m_S I p.2) := by
  unfold f_X8_by sBy
  have c : how = 0 ∨ how = 1 ∨ how = 2 := by omega
  rcases c with c | c | c <;> subst c
  · refine wp_f (fun n => n rfl) ?_
    refine wp_c2 (M_hits (kd := 2) h hc hL hh hs1 (by decide)) (fun r J hr => wp_some ⟨?_, hr.2⟩)
    have a1 : r = lN (sH s d f false u V sh st) := hr.1
    show (20 : Int64) * r = _
    rw [a1, l20, lN_mul]
    rfl
  · refine wp_t (by decide) (wp_f (fun n => n rfl) ?_)
    refine wp_c2 (M_bunts h hc hL hs1) (fun r J hr => wp_some ⟨?_, hr.2⟩)
    have a1 : r = lN (sB s d f u V st) := hr.1
    show (20 : Int64) * r = _
    rw [a1, l20, lN_mul]
    rfl
  · refine wp_t (by decide) (wp_t (by decide) ?_)
    refine wp_c2 (M_steals h hc hL hh hb hsl h27 hs1) (fun r J hr => wp_some ⟨?_, hr.2⟩)
    exact hr.1
theorem m_choose_all : ∀ st, st < 24 → f_X8_canChoose 0 (nI (st % 8)) (nI (st / 8)) = some 1 ∧ f_X8_canChoose 1 (nI (st % 8)) (nI (st / 8)) = some (if mC 6 st then 1 else 0) ∧ f_X8_canChoose 2 (nI (st % 8)) (nI (st / 8)) = some (if mC 7 st then 1 else 0) := by decide +kernel
-- one state is laid
def m_S2 (a i : Nat) : Prop := (a = 83 ∧ 19 ≤ i ∧ i ≤ 21) ∨ a = 91
def m_SV (st a i : Nat) : Prop := a = 89 ∧ i = st
def M_lst (s d f u sl kd : Nat) (V sh : Nat → Nat) (st : Nat) (I : e_I) (L : e_L) (p : e_I × e_L) : Prop := (fr m_S2 I p.1 ∧ (∀ i, i ≠ st → p.1 91 i = I 91 i)) ∧ (kd = 2 → p.1 91 st = nI (sC s d f u sl V sh st)) ∧ p.2 89 st = lN (sK s d f u sl kd V sh st) ∧ frL (m_SV st) L p.2
theorem m_S_S2 {I J : e_I} (h : fr m_S I J) : fr m_S2 I J := fr_mono (fun _ _ q => Or.inl q) h
theorem M_st1 {I : e_I} {L : e_L} {s d f u sl st kd : Nat} {V sh : Nat → Nat} (h : RV s d f) (hc : M_c I s d f) (hL : M_L L u V) (hh : M_sh I sh) (hs1 : st < 24) (hk : kd < 4) (h2 : kd ≠ 2) : wp (f_X8_laysState (nI st) (nI kd) I L) (M_lst s d f u sl kd V sh st I L) := by
  unfold f_X8_laysState
  refine wp_let (wp_let ?_)
  have e1 : e_rm (nI st) 8 = nI (st % 8) := nI_rm (b := 8) (by decide) (by omega) (by decide)
  have e2 : nI st / 8 = nI (st / 8) := nI_div (b := 8) (by decide) (by omega) (by decide)
  rw [e1, e2]
  refine wp_f (nI_n (b := 2) h2 (by omega) (by decide)) ?_
  refine wp_c2 (M_hits h hc hL hh hs1 hk) (fun r J hr => ?_)
  refine wp_as (nI_ix hs1 (by omega)) (wp_let (wp_some ?_))
  rw [nI_clamp (by omega)]
  refine ⟨⟨m_S_S2 hr.2, fun i _ => hr.2 91 i (m_Sa (by decide))⟩, fun q => absurd q h2, ?_, frL_ul ⟨rfl, rfl⟩⟩
  show e_ul L 89 st r 89 st = _
  rw [ul_s, show r = lN (sH s d f (kd == 1) u V sh st) from hr.1]
  unfold sK
  rw [if_neg h2]
theorem M_by_S {J I : e_I} {sl : Nat} (f1 : fr m_S2 I J) (h27 : I 83 27 = nI sl) : J 83 27 = nI sl := by
  rw [f1 83 27 (fun q => by rcases q with q | q <;> omega)]
  exact h27
theorem M_c_fr2 {I J : e_I} {s d f : Nat} (h : fr m_S2 I J) (hc : M_c I s d f) : M_c J s d f := by
  unfold M_c
  rw [h 85 1 (fun q => by rcases q with q | q <;> omega), h 85 2 (fun q => by rcases q with q | q <;> omega), h 85 3 (fun q => by rcases q with q | q <;> omega)]
  exact hc
theorem M_sh_fr2 {I J : e_I} {sh : Nat → Nat} (h : fr m_S2 I J) (hc : M_sh I sh) : M_sh J sh := fun e he => by
  rw [h 92 e (fun q => by rcases q with q | q <;> omega)]
  exact hc e he
theorem M_L_fr {L M : e_L} {u st : Nat} {V : Nat → Nat} (h : frL (m_SV st) L M) (hL : M_L L u V) : M_L M u V := by
  refine ⟨?_, hL.2.1, fun q hq => ?_⟩
  · rw [h 83 26 (fun q => by have := q.1; omega)]
    exact hL.1
  · rw [h 90 q (fun q => by have := q.1; omega)]
    exact hL.2.2 q hq
theorem M_st2 {I : e_I} {L : e_L} {s d f u sl st : Nat} {V sh : Nat → Nat} (h : RV s d f) (hc : M_c I s d f) (hL : M_L L u V) (hh : M_sh I sh) (hb : M_b s d f u V sh) (hsl : sl ≤ 20) (h27 : I 83 27 = nI sl) (hs1 : st < 24) (hT : sT s d f u sl V sh st < 2 ^ 63) : wp (f_X8_laysState (nI st) (nI 2) I L) (M_lst s d f u sl 2 V sh st I L) := by
  obtain ⟨b1, b2⟩ := hb st hs1
  obtain ⟨k0, k1, k2⟩ := m_choose_all st hs1
  have hx : e_ix (nI st) 24 = true := nI_ix hs1 (by omega)
  have cl : (nI st).toNatClampNeg = st := nI_clamp (by omega)
  unfold f_X8_laysState
  refine wp_let (wp_let ?_)
  have e1 : e_rm (nI st) 8 = nI (st % 8) := nI_rm (b := 8) (by decide) (by omega) (by decide)
  have e2 : nI st / 8 = nI (st / 8) := nI_div (b := 8) (by decide) (by omega) (by decide)
  rw [e1, e2]
  refine wp_t rfl (wp_as hx (wp_let ?_))
  rw [cl]
  -- what holds between the choices
  let P : Nat → Nat → e_I → e_L → Prop := fun ch v J M => (fr m_S2 I J ∧ (∀ i, i ≠ st → J 91 i = I 91 i)) ∧ J 91 st = nI ch ∧ M 89 st = lN v ∧ frL (m_SV st) L M
  have put : ∀ (n : Nat) (how : Nat) (ch v : Nat) (J : e_I) (M : e_L) (k : Int32 → e_I → e_L → Option (e_I × e_L)) (k2 : e_I → e_L → Option (e_I × e_L)) (Q : e_I × e_L → Prop), (fr m_S2 I J ∧ (∀ i, i ≠ st → J 91 i = I 91 i)) → frL (m_SV st) L M → (∀ J M, P how v J M → wp (k (nI (how + 1)) J M) Q) → wp (f_X8_laysState_91 (nI st) (nI (st % 8)) (nI (st / 8)) k k2 (nI how) (lN v) J M) Q := fun n how ch v J M k k2 Q hJ hM hk => by
    unfold f_X8_laysState_91 f_X8_laysState_107
    refine wp_as hx (wp_let (wp_as hx (wp_let (wp_let ?_))))
    rw [cl, nI_1]
    refine hk _ _ ⟨⟨fr_tr hJ.1 (fr_ui (Or.inr rfl)), fun i hi => by rw [ui_i hi]; exact hJ.2 i hi⟩, ui_s, ul_s, frL_tr hM (frL_ul ⟨rfl, rfl⟩)⟩
  have f0 : fr m_S2 I (e_ui I 91 st (-1)) := fr_ui (Or.inr rfl)
  -- hitting
  show wp (f_X8_laysState_41 (nI st) (nI (st % 8)) (nI (st / 8)) (fun I L => some (I, L)) (999996 + 1 + 1 + 1 + 1) 0 (e_ui I 91 st (-1)) L) _
  rw [f_X8_laysState_41]
  refine wp_f (by decide) (wp_e1 k0 (wp_f (by decide) ?_))
  refine wp_c2 (M_by (how := 0) h (M_c_fr2 f0 hc) hL (M_sh_fr2 f0 hh) hb hsl (M_by_S f0 h27) hs1 (by decide)) (fun r J hr => ?_)
  have g2 : fr m_S _ J := hr.2
  have jm : J 91 st = -1 := by rw [g2 91 st (m_Sa (by decide)), ui_s]
  have fJ : fr m_S2 I J ∧ (∀ i, i ≠ st → J 91 i = I 91 i) := ⟨fr_tr f0 (m_S_S2 hr.2), fun i hi => by rw [g2 91 i (m_Sa (by decide)), ui_i hi]⟩
  have a1 : r = lN (20 * sH s d f false u V sh st) := hr.1
  rw [cl, jm, a1]
  refine wp_as hx (wp_t rfl ?_)
  refine put 0 0 0 (20 * sH s d f false u V sh st) J L _ _ _ fJ frL_rfl ?_
  clear jm fJ a1 g2 hr
  intro J M hP
  -- bunting
  have step1 : ∀ Q : e_I × e_L → Prop, (∀ J M, P (sC1 s d f u V sh st) (20 * sW s d f u V sh st) J M → wp (f_X8_laysState_41 (nI st) (nI (st % 8)) (nI (st / 8)) (fun I L => some (I, L)) (999996 + 1 + 1) (nI 2) J M) Q) → wp (f_X8_laysState_41 (nI st) (nI (st % 8)) (nI (st / 8)) (fun I L => some (I, L)) (999996 + 1 + 1 + 1) (nI (0 + 1)) J M) Q := fun Q hQ => by
    rw [f_X8_laysState_41]
    refine wp_f (by decide) (wp_e1 k1 ?_)
    have w := sW_in (s := s) (d := d) (f := f) (u := u) (V := V) (sh := sh) hs1
    by_cases q : mC 6 st = true
    · rw [if_pos q] at w ⊢
      refine wp_f (by decide) ?_
      refine wp_c2 (M_by (how := 1) h (M_c_fr2 hP.1.1 hc) (M_L_fr hP.2.2.2 hL) (M_sh_fr2 hP.1.1 hh) hb hsl (M_by_S hP.1.1 h27) hs1 (by decide)) (fun r K hr => ?_)
      have g2 : fr m_S _ K := hr.2
      have km : K 91 st = nI 0 := by rw [g2 91 st (m_Sa (by decide)), hP.2.1]
      have fK : fr m_S2 I K ∧ (∀ i, i ≠ st → K 91 i = I 91 i) := ⟨fr_tr hP.1.1 (m_S_S2 hr.2), fun i hi => by rw [g2 91 i (m_Sa (by decide)), hP.1.2 i hi]⟩
      have a1 : r = lN (20 * sB s d f u V st) := hr.1
      rw [cl, km, a1, hP.2.2.1]
      refine wp_as hx (wp_f (by decide) (wp_as hx ?_))
      by_cases z : sH s d f false u V sh st < sB s d f u V st
      · refine wp_f (fun n => by have := (lN_cmp (by omega) (by omega)).mp n; omega) ?_
        refine put 0 1 0 (20 * sB s d f u V st) K M _ _ _ fK hP.2.2.2 ?_
        intro J M hP2
        refine hQ J M ?_
        have e3 : sC1 s d f u V sh st = 1 := by
          unfold sC1
          rw [if_pos ⟨q, z⟩]
        have e4 : 20 * sW s d f u V sh st = 20 * sB s d f u V st := by rw [w, Nat.max_eq_right (by omega)]
        rw [e3, e4]
        exact hP2
      · refine wp_t ((lN_cmp (by omega) (by omega)).mpr (by omega)) ?_
        unfold f_X8_laysState_107
        refine wp_let (hQ K M ?_)
        have e3 : sC1 s d f u V sh st = 0 := by
          unfold sC1
          rw [if_neg (fun n => z n.2)]
        have e4 : 20 * sW s d f u V sh st = 20 * sH s d f false u V sh st := by rw [w, Nat.max_eq_left (by omega)]
        rw [e3, e4]
        exact ⟨fK, km, hP.2.2.1, hP.2.2.2⟩
    · rw [if_neg q] at w ⊢
      refine wp_t rfl ?_
      unfold f_X8_laysState_107
      refine wp_let (hQ J M ?_)
      have e3 : sC1 s d f u V sh st = 0 := by
        unfold sC1
        rw [if_neg (fun n => q n.1)]
      rw [e3, w]
      exact hP
  refine step1 _ ?_
  clear step1 hP
  clear J M
  intro J M hP
  -- stealing
  rw [f_X8_laysState_41]
  refine wp_f (by decide) (wp_e1 k2 ?_)
  have wl := sW_lt hb (show st ≤ 24 by omega)
  have c1 : sC1 s d f u V sh st < 2 := by
    unfold sC1
    split <;> omega
  have fin : ∀ (n : Nat) (J : e_I) (M : e_L) (ch v : Nat), P ch v J M → ch = sC s d f u sl V sh st → v = sV s d f u sl V sh st → wp (f_X8_laysState_41 (nI st) (nI (st % 8)) (nI (st / 8)) (fun I L => some (I, L)) (n + 1) (nI (2 + 1)) J M) (M_lst s d f u sl 2 V sh st I L) := fun n J M ch v hP e1 e2 => by
    rw [f_X8_laysState_41]
    refine wp_t (by decide) (wp_some ⟨hP.1, fun _ => e1 ▸ hP.2.1, ?_, hP.2.2.2⟩)
    show M 89 st = _
    rw [hP.2.2.1, e2]
    rfl
  by_cases q : mC 7 st = true
  · rw [if_pos q]
    refine wp_f (by decide) ?_
    refine wp_c2 (M_by (how := 2) h (M_c_fr2 hP.1.1 hc) (M_L_fr hP.2.2.2 hL) (M_sh_fr2 hP.1.1 hh) hb hsl (M_by_S hP.1.1 h27) hs1 (by decide)) (fun r K hr => ?_)
    have g2 : fr m_S _ K := hr.2
    have km : K 91 st = nI (sC1 s d f u V sh st) := by rw [g2 91 st (m_Sa (by decide)), hP.2.1]
    have fK : fr m_S2 I K ∧ (∀ i, i ≠ st → K 91 i = I 91 i) := ⟨fr_tr hP.1.1 (m_S_S2 hr.2), fun i hi => by rw [g2 91 i (m_Sa (by decide)), hP.1.2 i hi]⟩
    have a1 : r = lN (sT s d f u sl V sh st) := hr.1
    rw [cl, km, a1, hP.2.2.1]
    refine wp_as hx (wp_f (nI_m1 (by omega)) (wp_as hx ?_))
    by_cases z : 20 * sW s d f u V sh st < sT s d f u sl V sh st
    · refine wp_f (fun n => by have := (lN_cmp (by omega) (by omega)).mp n; omega) ?_
      refine put 0 2 0 (sT s d f u sl V sh st) K M _ _ _ fK hP.2.2.2 ?_
      intro J M hP2
      refine fin _ J M _ _ hP2 ?_ ?_
      · unfold sC
        rw [if_pos ⟨q, z⟩]
      · unfold sV
        rw [if_pos q, Nat.max_eq_right (by omega)]
    · refine wp_t ((lN_cmp (by omega) (by omega)).mpr (by omega)) ?_
      unfold f_X8_laysState_107
      refine wp_let (fin _ K M _ _ ⟨fK, km, hP.2.2.1, hP.2.2.2⟩ ?_ ?_)
      · unfold sC
        rw [if_neg (fun n => z n.2)]
      · unfold sV
        rw [if_pos q, Nat.max_eq_left (by omega)]
  · rw [if_neg q]
    refine wp_t rfl ?_
    unfold f_X8_laysState_107
    refine wp_let (fin _ J M _ _ hP ?_ ?_)
    · unfold sC
      rw [if_neg (fun n => q n.1)]
    · unfold sV
      rw [if_neg q]
