-- choice, chosen, breaksEven, worth
theorem shl_top {c ti K p fc : Nat} {CH : Nat → Nat → Nat} {O : Nat → Nat} (hp : p < c) : shl c ti 2 K p fc CH O K = sh1 ti CH (O p) fc := by
  have e0 : (p + 0) % c = p := Nat.mod_eq_of_lt hp
  unfold shl
  rw [Nat.sub_self, e0, sSh_1 (by decide)]
  rfl
theorem t_good1 {t : Nat} {I : e_I} {L : e_L} {b o k : Int32} (h : Rl t I L) (ht : t < 600) (hv : tA (I 83 6) 1 b o k = 0) : ∃ B Q K : Nat, B ≤ 7 ∧ Q ≤ 2 ∧ 1 ≤ K ∧ K ≤ 5 ∧ b = nI B ∧ o = nI Q ∧ k = nI K ∧ ∃ c s d f sl ti CH O b p fc st, VW I 23 c s d f sl ti CH O b p fc st := (t_good (w := 0) h ht hv).2
theorem T_choice (t : Nat) (ht : t < 600) : ST_choice (Rl t) (Rl (t + 1)) := by
  intro b o k I L h
  have hx := Rl_hx h
  refine st_2 ?_
  unfold f_X7_choice
  refine wp_e1 (t_ahead7 hx) ?_
  by_cases hv : tA (I 83 6) 1 b o k = 0
  · obtain ⟨B, Q, K, hB, hQ, h1, hk, rfl, rfl, rfl, c, s, d, f, sl, ti, CH, O, nx, p, fc, st, V⟩ := t_good1 h ht hv
    obtain ⟨hx6, _⟩ := tA_0 hv
    have V7 := VW_R7 (v := 0) V
    obtain ⟨v1, v2, v3, v4, v5, ⟨v6a, v6b, hp, ep⟩, ⟨v7a, v7b, v7⟩, v8, v9⟩ := id V7
    have hb : nx < c := by rw [← ep]; exact (v4 p hp).2
    have h115 : r_R7 I 0 11 5 = 0 := h.2.2.2.2.1.1
    have hst : f_X7_stateOf (nI B) (nI Q) = some (nI (Q * 8 + B)) := by
      unfold f_X7_stateOf
      rw [n8, nI_mul, nI_add]
    rw [hv]
    refine wp_e2 (r_refused 0 I) (wp_t rfl ?_)
    refine wp_e1 (C_ruled v2) ?_
    refine wp_c2 (C_lookAhead (O := O) (by decide) v2 v1 v1.2.2.1 v9 h115 h.2.2.2.2.1.2 v6a v7a hp ep (VW_n V7) h1 hk (by omega)) (fun J M hJ => ?_)
    obtain ⟨j2, j3, j4, j2b, j5, j6, j7⟩ := hJ
    have bd := C_bnd (k := K) (fi := p) (fc := fc) (j := K - 1) (f0 := fc) v1 v1.2.2.1 (VW_OR V7) (by omega) hb
    refine wp_e1 hst (wp_e1 (C_choiceIn j5 bd.1 (bd.2 _ (by omega)) j6 (by omega)) (wp_some ?_))
    have sJ : sameL (r_R7 I 0) J := sameL_fr (fun a i l => live_11 l) j2
    have J6 : J 83 6 = I 83 6 := sJ 83 6 rfl
    have ix : (8 : Int32) * nI Q + nI B = nI (Q * 8 + B) := by rw [n8, nI_mul, nI_add, Nat.mul_comm]
    have c8 : tA (J 83 6) 1 (nI B) (nI Q) (nI K) = 0 := by rw [J6]; exact hv
    unfold f_X8_choice
    refine wp_e1 t_ahead8 ?_
    show wp (e_b2 (f_X8_isRefused (tA (J 83 6) 1 (nI B) (nI Q) (nI K)) J) _) _
    rw [c8]
    refine wp_e2 (r_isRefused 0 J) (wp_t rfl ?_)
    refine wp_c2 (M_now (kd := 2) (k := K) (VW_R8 (VW_same sJ V7)) (by decide) hk) (fun J2 M2 h2 => ?_)
    obtain ⟨i1, i2, i3, i4⟩ := h2
    rw [ix]
    refine wp_as (nI_ix (by omega) (by omega)) (wp_some ⟨?_, ?_⟩)
    · show J2 91 (nI (Q * 8 + B)).toNatClampNeg = _
      rw [nI_clamp (by omega)]
      have m := ((i4.2.2 (K - 1) (by omega)).2.2 rfl) (Q * 8 + B) (by omega)
      have e1 : K - 1 + 1 = K := by omega
      have e2 : sSc c 2 = 400 := rfl
      rw [e1, shl_top hp, ep, e2] at m
      exact m
    · refine Rl_fin (v := 0) (by decide) h sJ (sameL_fr (fun a i l => live_S4 l) i1) ?_ (c_Z_SL i2 j4)
      exact (i1 11 5 (fun z => by rcases z with z | z | z <;> omega)).trans j2b
  · refine wp_e2 (r_refused _ I) ?_
    rw [r_b_n hv]
    refine wp_f (by decide) (wp_some ?_)
    unfold f_X8_choice
    refine wp_e1 t_ahead8 ?_
    show wp (e_b2 (f_X8_isRefused (tA (I 83 6) 1 b o k) _) _) _
    refine wp_e2 (r_isRefused _ _) ?_
    rw [r_b_n hv]
    exact wp_f (by decide) (wp_some ⟨rfl, Rl_mono (Nat.le_succ t) (Rl_R tA_4 h)⟩)
-- whether one can choose so
def cC (h st : Nat) : Bool := if h = 0 then true else if h = 1 then mC 6 st else mC 7 st
theorem C_canCh {I : e_I} {s d f h st : Nat} (hr : RV s d f) (hT : c_T I s d f) (hh : h < 3) (hs1 : st < 24) : f_X2_canChoose (nI h) (nI st) I = some (if cC h st then 1 else 0) := by
  have c : h = 0 ∨ h = 1 ∨ h = 2 := by omega
  have k6 : f_X2_can 6 (nI st) I = some (if mC 6 st then 1 else 0) := c_can_at (e := 6) hr hT (by decide) hs1
  have k7 : f_X2_can 7 (nI st) I = some (if mC 7 st then 1 else 0) := c_can_at (e := 7) hr hT (by decide) hs1
  unfold f_X2_canChoose f_X2_canChoose_24 f_X2_canChoose_17 f_X2_canChoose_24 f_X2_canChoose_29
  rcases c with rfl | rfl | rfl
  · rw [if_pos (show nI 0 = 0 from rfl)]
    rfl
  · rw [if_neg (by decide), if_neg (fun n => n rfl), k6, r_b1]
    show _ = some (if mC 6 st then 1 else 0)
    by_cases q : mC 6 st = true
    · rw [if_pos q, if_neg (by decide)]
      rfl
    · rw [if_neg q, if_pos rfl]
      rfl
  · rw [if_neg (by decide), if_pos (by decide), k7, r_b1]
    show _ = some (if mC 7 st then 1 else 0)
    by_cases q : mC 7 st = true
    · rw [if_pos q, if_neg (by decide)]
      rfl
    · rw [if_neg q, if_pos rfl]
      rfl
theorem M_canCh {h B Q : Nat} (hh : h < 3) (hB : B ≤ 7) (hQ : Q ≤ 2) : f_X8_canChoose (nI h) (nI B) (nI Q) = some (if cC h (Q * 8 + B) then 1 else 0) := by
  have c : h = 0 ∨ h = 1 ∨ h = 2 := by omega
  obtain ⟨k0, k1, k2⟩ := m_choose_all (Q * 8 + B) (by omega)
  have e1 : (Q * 8 + B) % 8 = B := by omega
  have e2 : (Q * 8 + B) / 8 = Q := by omega
  rw [e1, e2] at k0 k1 k2
  rcases c with rfl | rfl | rfl
  · exact k0
  · exact k1
  · exact k2
def tW (tx w b o k : Int32) (can : Bool) : Int32 := if tA tx w b o k = 0 then (if can then 0 else 5) else tA tx w b o k
theorem C_mbW {I : e_I} {L : e_L} {s d f u j sl st h : Nat} {V sh : Nat → Nat} (hc : c_ctx I L s d f u j V sh) (hb : M_b s d f u V sh) (hl : c_look I j sl) (hs1 : st < 24) (hh : h < 3) (q : cC h st = true) : f_X1_meanBy (nI h) (nI st) I L = some (lN (sBy s d f u sl h V sh st)) := by
  have c : h = 0 ∨ h = 1 ∨ h = 2 := by omega
  rcases c with rfl | rfl | rfl
  · exact C_mb0 hc hl hs1
  · have k := C_mb1 hc hl hs1
    have q : mC 6 st = true := q
    rw [if_pos q] at k
    exact k
  · have k := C_mb2 hc hb hl hs1
    have q : mC 7 st = true := q
    rw [if_pos q] at k
    exact k
theorem sBy_lt {s d f u sl st h : Nat} {V sh : Nat → Nat} (hb : M_b s d f u V sh) (hT : sT s d f u sl V sh st < 2 ^ 62) (hs1 : st < 24) : sBy s d f u sl h V sh st < 2 ^ 62 + 2 ^ 62 := by
  obtain ⟨b1, b2⟩ := hb st hs1
  unfold sBy
  split
  · omega
  · split <;> omega
theorem r_b_if {c : Prop} [Decidable c] : (if c then (1 : Int32) else 0) = 0 ↔ ¬ c := by
  by_cases h : c
  · rw [if_pos h]
    exact ⟨fun n => absurd n (by decide), fun n => absurd h n⟩
  · rw [if_neg h]
    exact ⟨fun _ => h, fun _ => rfl⟩
theorem T_chosen (t : Nat) (ht : t < 600) : ST_chosen (Rl t) (Rl (t + 1)) := by
  intro b o k g w I L h
  have hx := Rl_hx h
  refine st_2 ?_
  -- the two conditions of 'there'
  let W : Int32 := if (0 ≤ w ∧ w ≤ 1) ∧ (0 ≤ g ∧ g ≤ 2) then 1 else 0
  have way : ∀ v, (tA (I 83 6) W b o k = v → v ≠ 0 → f_X7_troubleOfWay (if 0 ≤ w ∧ w ≤ 1 then 1 else 0) b o k g I = some v) := fun v e hv => by
    have k20 : ∀ s, tA (I 83 6) s b o k = v → f_X7_troubleOfWay_20 I b o k g s = some v := fun s es => by
      unfold f_X7_troubleOfWay_20
      rw [t_ahead7 hx, r_b1, es, if_neg hv]
    unfold f_X7_troubleOfWay f_X7_troubleOfWay_19
    rw [r_within, r_b1]
    by_cases h1 : 0 ≤ w ∧ w ≤ 1
    · rw [if_pos h1, if_neg (by decide)]
      by_cases h2 : 0 ≤ g ∧ g ≤ 2
      · rw [if_pos h2, if_neg (by decide)]
        have eW : W = 1 := if_pos ⟨h1, h2⟩
        rw [eW] at e
        exact k20 1 e
      · rw [if_neg h2, if_pos rfl]
        have eW : W = 0 := if_neg (fun n => h2 n.2)
        rw [eW] at e
        exact k20 0 e
    · rw [if_neg h1, if_pos rfl]
      have eW : W = 0 := if_neg (fun n => h1 n.1)
      rw [eW] at e
      exact k20 0 e
  have m26 : ∀ J : e_I, J 83 6 = I 83 6 → ∀ N : e_L, f_X8_chosen b o k g w J N = f_X8_chosen_26 b o k g w W J N := fun J hJ N => by
    unfold f_X8_chosen f_X8_chosen_25
    rw [r_in, r_b1]
    by_cases h2 : 0 ≤ g ∧ g ≤ 2
    · rw [if_pos h2, if_neg (by decide), r_in, r_b1]
      by_cases h1 : 0 ≤ w ∧ w ≤ 1
      · have eW : W = 1 := if_pos ⟨h1, h2⟩
        rw [if_pos h1, if_neg (by decide), eW]
      · have eW : W = 0 := if_neg (fun n => h1 n.1)
        rw [if_neg h1, if_pos rfl, eW]
    · have eW : W = 0 := if_neg (fun n => h2 n.2)
      rw [if_neg h2, if_pos rfl, eW]
  have bad : ∀ v, v ≠ 0 → v ≠ 4 → f_X7_troubleOfWay (if 0 ≤ w ∧ w ≤ 1 then 1 else 0) b o k g I = some v → (∀ N, f_X8_chosen_26 b o k g w W (r_R7 I v) N = f_X8_chosen_60 b o k g w v (r_R7 I v) N) → wp (f_X7_chosen b o k g w I L) (fun p => wp (f_X8_chosen b o k g w p.2.1 p.2.2) (fun q => q.1 = p.1 ∧ Rl (t + 1) q.2.1 q.2.2)) := fun v hv h4 e7 e8 => by
    unfold f_X7_chosen
    refine wp_e1 t_part (wp_e1 e7 (wp_e2 (r_refused _ I) ?_))
    rw [r_b_n hv]
    refine wp_f (by decide) (wp_some ?_)
    show wp (f_X8_chosen b o k g w (r_R7 I v) L) _
    rw [m26 (r_R7 I v) rfl, e8]
    unfold f_X8_chosen_60
    refine wp_e2 (r_isRefused _ _) ?_
    rw [r_b_n hv]
    exact wp_f (by decide) (wp_some ⟨rfl, Rl_mono (Nat.le_succ t) (Rl_R h4 h)⟩)
  by_cases hv : tA (I 83 6) W b o k = 0
  · obtain ⟨hx6, hW, _⟩ := tA_0 hv
    have hwg : (0 ≤ w ∧ w ≤ 1) ∧ (0 ≤ g ∧ g ≤ 2) := by
      by_cases q : (0 ≤ w ∧ w ≤ 1) ∧ (0 ≤ g ∧ g ≤ 2)
      · exact q
      · exact absurd (if_neg q) hW
    have eW : W = 1 := if_pos hwg
    rw [eW] at hv
    obtain ⟨B, Q, K, hB, hQ, h1, hk, rfl, rfl, rfl, c, s, d, f, sl, ti, CH, O, nx, p, fc, st, V⟩ := t_good1 h ht hv
    obtain ⟨gg, _, hg, rfl⟩ := nI_btw (m := 0) (n := 2) rfl rfl hwg.2.1 hwg.2.2
    have hst : f_X7_stateOf (nI B) (nI Q) = some (nI (Q * 8 + B)) := by
      unfold f_X7_stateOf
      rw [n8, nI_mul, nI_add]
    have w7 : f_X7_troubleOfWay (if 0 ≤ w ∧ w ≤ 1 then 1 else 0) (nI B) (nI Q) (nI K) (nI gg) I = some (if cC gg (Q * 8 + B) then 0 else 5) := by
      unfold f_X7_troubleOfWay
      rw [if_pos hwg.1, if_neg (by decide), r_within, if_pos hwg.2, r_b1, if_neg (by decide)]
      unfold f_X7_troubleOfWay_20 f_X7_troubleOfWay_62
      rw [t_ahead7 hx, r_b1, hv, if_pos rfl, hst, r_b1, C_canCh V.1.2.1 V.2.2.2.2.2.2.2.2 (by omega) (by omega), r_b1]
      by_cases q : cC gg (Q * 8 + B) = true
      · rw [if_pos q, if_neg (by decide), if_pos q]
      · rw [if_neg q, if_pos rfl, if_neg q]
    have w8 : ∀ (J : e_I) (N : e_L), J 83 6 = I 83 6 → f_X8_chosen_26 (nI B) (nI Q) (nI K) (nI gg) w 1 J N = f_X8_chosen_60 (nI B) (nI Q) (nI K) (nI gg) w (if cC gg (Q * 8 + B) then 0 else 5) J N := fun J N hJ => by
      unfold f_X8_chosen_26
      rw [t_ahead8, r_b1, hJ, hv, if_pos rfl, M_canCh (by omega) hB hQ, r_b1]
      by_cases q : cC gg (Q * 8 + B) = true
      · rw [if_pos q, if_neg (by decide), if_pos q]
      · rw [if_neg q, if_pos rfl, if_neg q]
    by_cases q : cC gg (Q * 8 + B) = true
    · rw [if_pos q] at w7
      have V7 := VW_R7 (v := 0) V
      obtain ⟨v1, v2, v3, v4, v5, ⟨v6a, v6b, hp, ep⟩, ⟨v7a, v7b, v7⟩, v8, v9⟩ := id V7
      have hb : nx < c := by rw [← ep]; exact (v4 p hp).2
      have h115 : r_R7 I 0 11 5 = 0 := h.2.2.2.2.1.1
      have bd := C_bnd (k := K) (fi := p) (fc := fc) (j := K - 1) (f0 := fc) v1 v1.2.2.1 (VW_OR V7) (by omega) hb
      have hV := fun q (_ : q ≤ 24) => LV_lt (k := K) (fi := p) (fc := fc) (ti := ti) (kd := 2) v1.2.1 v1.2.2.1 v1.1.1 v1.1.2 v1.2.2.2.2 (VW_OR V7) (show K - 1 ≤ 5 by omega) q
      have hu := sSc_pow (c := c) (kd := 2) v1.1.2 (show K - 1 ≤ 5 by omega)
      have h20 : hs (sh1 ti CH nx fc) 6 = 20 := sh1_sum (v1.2.2.2.2 nx hb)
      have e400 : sSc c 2 = 400 := rfl
      rw [e400] at hu
      have tT := sT_le (u := 400 ^ (K - 1)) (sl := sl) (sh := sh1 ti CH nx fc) v1.2.1 (show Q * 8 + B < 24 by omega) v1.2.2.1 hV h20
      have tT2 : sT s d f (400 ^ (K - 1)) sl (LV s d f c sl ti 2 K p fc CH O (K - 1)) (sh1 ti CH nx fc) (Q * 8 + B) < 2 ^ 62 := by omega
      have bl : sBy s d f (400 ^ (K - 1)) sl gg (LV s d f c sl ti 2 K p fc CH O (K - 1)) (sh1 ti CH nx fc) (Q * 8 + B) < 2 ^ 62 := by
        obtain ⟨b1, b2⟩ := bd.1 (Q * 8 + B) (by omega)
        have x1 := sH_le (any := false) (u := 400 ^ (K - 1)) (sh := sh1 ti CH nx fc) v1.2.1 (show Q * 8 + B < 24 by omega) hV
        have x2 := sB_le (u := 400 ^ (K - 1)) v1.2.1 (show Q * 8 + B < 24 by omega) hV
        rw [h20] at x1
        unfold sBy
        split
        · omega
        · split
          · omega
          · exact tT2
      have uK := sSc_pow (c := c) (kd := 2) v1.1.2 hk
      rw [e400] at uK
      obtain ⟨x, x7, x8⟩ := r_part (w := w) bl (B := 400 ^ K) (by omega) (Nat.pow_pos (by decide)) (Or.inl rfl)
      unfold f_X7_chosen
      refine wp_e1 t_part (wp_e1 w7 (wp_e2 (r_refused 0 I) (wp_t rfl ?_)))
      refine wp_e1 (C_ruled v2) ?_
      refine wp_c2 (C_lookAhead (O := O) (by decide) v2 v1 v1.2.2.1 v9 h115 h.2.2.2.2.1.2 v6a v7a hp ep (VW_n V7) h1 hk (by omega)) (fun J M hJ => ?_)
      obtain ⟨j2, j3, j4, j2b, j5, j6, j7⟩ := hJ
      refine wp_e1 hst (wp_e1 (C_mbW j5 bd.1 j6 (by omega) (by omega) q) (wp_e1 (C_unit j7 hk) (wp_e1 x7 (wp_some ?_))))
      have sJ : sameL (r_R7 I 0) J := sameL_fr (fun a i l => live_11 l) j2
      have J6 : J 83 6 = I 83 6 := sJ 83 6 rfl
      show wp (f_X8_chosen (nI B) (nI Q) (nI K) (nI gg) w J M) _
      rw [m26 J J6, eW, w8 J M J6, if_pos q]
      unfold f_X8_chosen_60
      refine wp_e2 (r_isRefused 0 J) (wp_t rfl ?_)
      refine wp_c2 (M_now (kd := 2) (k := K) (VW_R8 (VW_same sJ V7)) (by decide) hk) (fun J2 M2 h2 => ?_)
      obtain ⟨i1, i2, i3, i4⟩ := h2
      have i26 : M2 83 26 = lN (400 ^ K) := i4.1
      have dv : M2 83 26 / 400 = lN (400 ^ (K - 1)) := by
        rw [i26, l400, lN_div (by decide) (by omega) (by decide)]
        obtain ⟨k0, rfl⟩ : ∃ k0, K = k0 + 1 := ⟨K - 1, by omega⟩
        rw [Nat.pow_succ, Nat.mul_div_cancel _ (by decide)]
        rfl
      have e1 : K - 1 + 1 = K := by omega
      have m := i4.2.2 (K - 1) (by omega)
      rw [e1, shl_top hp, ep] at m
      have VJ2 : VW J2 23 c s d f sl ti CH O nx p fc st := VW_same (sameL_fr (fun a i l => live_S4 l) i1) (VW_R8 (VW_same sJ V7))
      refine wp_let ?_
      rw [dv]
      have hL : M_L (e_ul M2 83 26 (lN (400 ^ (K - 1)))) (400 ^ (K - 1)) (LV s d f c sl ti 2 K p fc CH O (K - 1)) := ⟨ul_s, LV_over _, fun st hst => by rw [ul_a (show (90 : Nat) ≠ 83 by decide)]; exact m.1 st hst⟩
      have eB : (Q * 8 + B) % 8 = B := by omega
      have eQ : (Q * 8 + B) / 8 = Q := by omega
      have by1 := M_by (how := gg) v1.2.1 VJ2.2.2.1.2.1 hL (fun e he => ⟨m.2.1 e he, sh1_lt v1 hb he⟩) bd.1 v1.2.2.1 i3 (show Q * 8 + B < 24 by omega) (by omega)
      rw [eB, eQ] at by1
      refine wp_c2 by1 (fun r J3 h3 => ?_)
      have h3a : r = lN (sBy s d f (400 ^ (K - 1)) sl gg (LV s d f c sl ti 2 K p fc CH O (K - 1)) (sh1 ti CH nx fc) (Q * 8 + B)) := h3.1
      have u2 : (400 : Int64) * e_ul M2 83 26 (lN (400 ^ (K - 1))) 83 26 = lN (400 ^ K) := by
        rw [ul_s, l400, lN_mul, Nat.mul_comm, ← Nat.pow_succ, Nat.succ_eq_add_one, e1]
      rw [u2, h3a]
      refine wp_e1 x8 (wp_some ⟨rfl, ?_⟩)
      have f3 : fr m_S4 (r_R8 J 0) J3 := fr_tr i1 (fr_mono (fun a i z => Or.inl ⟨z.1, Or.inl z.2⟩) h3.2)
      refine Rl_fin (v := 0) (by decide) h sJ (sameL_fr (fun a i l => live_S4 l) f3) ?_ (c_Z_SL (frL_tr i2 (frL_ul (Or.inr (Or.inr ⟨rfl, rfl⟩)))) j4)
      exact (f3 11 5 (fun z => by rcases z with z | z | z <;> omega)).trans j2b
    · rw [if_neg q] at w7
      refine bad 5 (by decide) (by decide) w7 (fun N => ?_)
      rw [eW, w8 (r_R7 I 5) N rfl, if_neg q]
  · refine bad _ hv tA_4 (way _ rfl hv) (fun N => ?_)
    unfold f_X8_chosen_26
    rw [t_ahead8, r_b1]
    show (if tA (I 83 6) W b o k = 0 then _ else _) = _
    rw [if_neg hv]
    rfl
