-- breaksEven
def sD (s d f c ti K p fc nx : Nat) (CH : Nat → Nat → Nat) (O : Nat → Nat) (st x : Nat) : Bool := sC s d f (400 ^ (K - 1)) x (LV s d f c x ti 2 K p fc CH O (K - 1)) (sh1 ti CH nx fc) st == 2
def beF (D : Nat → Bool) : Nat → Nat → Int32
  | 0, _ => -2
  | m + 1, s => if D s then nI s else beF D m (s + 1)
theorem sC_lt {s d f u sl st : Nat} {V sh : Nat → Nat} : sC s d f u sl V sh st < 3 := by
  unfold sC sC1
  split
  · omega
  · split <;> omega
theorem T_breaksEven (t : Nat) (ht : t < 600) : ST_breaksEven (Rl t) (Rl (t + 1)) := by
  intro b o k I L h
  have hx := Rl_hx h
  refine st_2 ?_
  have way : ∀ v, tA (I 83 6) 1 b o k = v → v ≠ 0 → f_X7_troubleOfWay 1 b o k 2 I = some v := fun v e hv => by
    unfold f_X7_troubleOfWay
    rw [if_neg (by decide), r_within, if_pos (by decide), r_b1, if_neg (by decide)]
    unfold f_X7_troubleOfWay_20
    rw [t_ahead7 hx, r_b1, e, if_neg hv]
  have bad : ∀ v, v ≠ 0 → v ≠ 4 → f_X7_troubleOfWay 1 b o k 2 I = some v → (f_X8_breaksEven b o k (r_R7 I v) L = f_X8_breaksEven_35 b o k v (r_R7 I v) L) → wp (f_X7_breaksEven b o k I L) (fun p => wp (f_X8_breaksEven b o k p.2.1 p.2.2) (fun q => q.1 = p.1 ∧ Rl (t + 1) q.2.1 q.2.2)) := fun v hv h4 e7 e8 => by
    unfold f_X7_breaksEven
    refine wp_e1 e7 (wp_e2 (r_refused _ I) ?_)
    rw [r_b_n hv]
    refine wp_f (by decide) (wp_some ?_)
    show wp (f_X8_breaksEven b o k (r_R7 I v) L) _
    rw [e8]
    unfold f_X8_breaksEven_35
    refine wp_e2 (r_isRefused _ _) ?_
    rw [r_b_n hv]
    exact wp_f (by decide) (wp_some ⟨rfl, Rl_mono (Nat.le_succ t) (Rl_R h4 h)⟩)
  by_cases hv : tA (I 83 6) 1 b o k = 0
  · obtain ⟨hx6, _⟩ := tA_0 hv
    obtain ⟨B, Q, K, hB, hQ, h1, hk, rfl, rfl, rfl, c, s, d, f, sl, ti, CH, O, nx, p, fc, st, V⟩ := t_good1 h ht hv
    have hst : f_X7_stateOf (nI B) (nI Q) = some (nI (Q * 8 + B)) := by
      unfold f_X7_stateOf
      rw [n8, nI_mul, nI_add]
    have w7 : f_X7_troubleOfWay 1 (nI B) (nI Q) (nI K) 2 I = some (if cC 2 (Q * 8 + B) then 0 else 5) := by
      unfold f_X7_troubleOfWay
      rw [if_neg (by decide), r_within, if_pos (by decide), r_b1, if_neg (by decide)]
      unfold f_X7_troubleOfWay_20 f_X7_troubleOfWay_62
      rw [t_ahead7 hx, r_b1, hv, if_pos rfl, hst, r_b1, show f_X2_canChoose 2 (nI (Q * 8 + B)) I = _ from C_canCh (h := 2) V.1.2.1 V.2.2.2.2.2.2.2.2 (by omega) (by omega), r_b1]
      by_cases q : cC 2 (Q * 8 + B) = true
      · rw [if_pos q, if_neg (by decide), if_pos q]
      · rw [if_neg q, if_pos rfl, if_neg q]
    have w8 : ∀ (J : e_I) (N : e_L), J 83 6 = I 83 6 → f_X8_breaksEven (nI B) (nI Q) (nI K) J N = f_X8_breaksEven_35 (nI B) (nI Q) (nI K) (if cC 2 (Q * 8 + B) then 0 else 5) J N := fun J N hJ => by
      unfold f_X8_breaksEven
      rw [t_ahead8, r_b1, hJ, hv, if_pos rfl, show f_X8_canChoose 2 (nI B) (nI Q) = _ from M_canCh (h := 2) (by omega) hB hQ, r_b1]
      by_cases q : cC 2 (Q * 8 + B) = true
      · rw [if_pos q, if_neg (by decide), if_pos q]
      · rw [if_neg q, if_pos rfl, if_neg q]
    by_cases q : cC 2 (Q * 8 + B) = true
    · rw [if_pos q] at w7
      have V7 := VW_R7 (v := 0) V
      have hp := V.2.2.2.2.2.1.2.2.1
      have ep := V.2.2.2.2.2.1.2.2.2
      have fcl := V.2.2.2.2.2.2.1.2.2
      have h115 : r_R7 I 0 11 5 = 0 := h.2.2.2.2.1.1
      have v1 := V.1
      have c9 : c ≤ 9 := v1.1.2
      have hb : nx < c := by rw [← ep]; exact (V.2.2.2.1 p hp).2
      -- the class's search
      have L7 : ∀ m x n J M, x + m = 21 → m < n → fr c_S11 (r_R7 I 0) J → J 11 5 = 0 → c_Z M → wp (f_X7_breaksEven_21 (nI B) (nI Q) (nI K) (fun (I_5 : e_I) (L_6 : e_L) => some ((-2), I_5, L_6)) (fun (v4_7 : Int32) (I_8 : e_I) (L_9 : e_L) => some (v4_7, I_8, L_9)) n (nI x) J M) (fun w => w.1 = beF (sD s d f c ti K p fc nx CH O (Q * 8 + B)) m x ∧ fr c_S11 (r_R7 I 0) w.2.1 ∧ w.2.1 11 5 = 0 ∧ c_Z w.2.2) := by
        intro m
        induction m with
        | zero =>
          intro x n J M hx hn fJ j5 hz
          obtain ⟨n, rfl⟩ : ∃ k, n = k + 1 := ⟨n - 1, by omega⟩
          rw [f_X7_breaksEven_21]
          exact wp_t (nI_lt (a := 20) (by omega) (by omega)) (wp_some ⟨rfl, fJ, j5, hz⟩)
        | succ m ih =>
          intro x n J M hx hn fJ j5 hz
          obtain ⟨n, rfl⟩ : ∃ k, n = k + 1 := ⟨n - 1, by omega⟩
          rw [f_X7_breaksEven_21]
          have VJ : VW J 23 c s d f sl ti CH O nx p fc st := VW_same (sameL_fr (fun a i l => live_11 l) fJ) V7
          refine wp_f (nI_nlt (b := x) (a := 20) (by omega) (by omega)) ?_
          refine wp_c2 (C_lookAhead (sl := x) (O := O) (by decide) VJ.2.1 v1 (by omega) VJ.2.2.2.2.2.2.2.2 j5 hz VJ.2.2.2.2.2.1.1 VJ.2.2.2.2.2.2.1.1 hp ep (VW_n VJ) h1 hk (by omega)) (fun J2 M2 h2 => ?_)
          obtain ⟨i1, i2, i3, i4, i5, i6, i7⟩ := h2
          have bd := C_bnd (k := K) (fi := p) (fc := fc) (j := K - 1) (f0 := fc) v1 (show x ≤ 20 by omega) (VW_OR V7) (by omega) hb
          refine wp_e1 hst (wp_e1 (C_choiceIn i5 bd.1 (bd.2 _ (by omega)) i6 (by omega)) ?_)
          have cl := sC_lt (s := s) (d := d) (f := f) (u := 400 ^ (K - 1)) (sl := x) (st := Q * 8 + B) (V := LV s d f c x ti 2 K p fc CH O (K - 1)) (sh := sh1 ti CH nx fc)
          by_cases z : sC s d f (400 ^ (K - 1)) x (LV s d f c x ti 2 K p fc CH O (K - 1)) (sh1 ti CH nx fc) (Q * 8 + B) = 2
          · rw [z]
            refine wp_f (fun n => n rfl) (wp_some ⟨?_, fr_tr fJ i1, i4, i3⟩)
            have zD : sD s d f c ti K p fc nx CH O (Q * 8 + B) x = true := by
              unfold sD
              rw [z]
              rfl
            show nI x = (if sD s d f c ti K p fc nx CH O (Q * 8 + B) x then nI x else _)
            rw [if_pos zD]
          · refine wp_t (nI_n (b := 2) z (by omega) (by decide)) (wp_let ?_)
            rw [nI_1 x]
            refine wp_mono (ih (x + 1) n J2 M2 (by omega) (by omega) (fr_tr fJ i1) i4 i3) (fun w hw => ⟨?_, hw.2⟩)
            have zD : ¬ sD s d f c ti K p fc nx CH O (Q * 8 + B) x = true := by
              unfold sD
              intro n
              exact z (by simpa using n)
            show w.1 = (if sD s d f c ti K p fc nx CH O (Q * 8 + B) x then nI x else _)
            rw [if_neg zD]
            exact hw.1
      have L8 : ∀ m x n (J0 J : e_I) M, VW J0 23 c s d f sl ti CH O nx p fc st → x + m = 21 → m < n → fr m_S4 J0 J → c_Z M → wp (f_X8_breaksEven_46 (nI B) (nI Q) (nI K) (fun (I_5 : e_I) (L_6 : e_L) => some ((-2), I_5, L_6)) (fun (v4_7 : Int32) (I_8 : e_I) (L_9 : e_L) => some (v4_7, I_8, L_9)) n (nI x) J M) (fun w => w.1 = beF (sD s d f c ti K p fc nx CH O (Q * 8 + B)) m x ∧ fr m_S4 J0 w.2.1 ∧ c_Z w.2.2) := by
        intro m
        induction m with
        | zero =>
          intro x n J0 J M V0 hx hn fJ hz
          obtain ⟨n, rfl⟩ : ∃ k, n = k + 1 := ⟨n - 1, by omega⟩
          rw [f_X8_breaksEven_46]
          exact wp_t (nI_lt (a := 20) (by omega) (by omega)) (wp_some ⟨rfl, fJ, hz⟩)
        | succ m ih =>
          intro x n J0 J M V0 hx hn fJ hz
          obtain ⟨n, rfl⟩ : ∃ k, n = k + 1 := ⟨n - 1, by omega⟩
          rw [f_X8_breaksEven_46]
          have f1 : fr m_S4 J0 (e_ui J 83 27 (nI x)) := fr_tr fJ (fr_ui (Or.inl ⟨rfl, Or.inr rfl⟩))
          have VJ : VW (e_ui J 83 27 (nI x)) 23 c s d f sl ti CH O nx p fc st := VW_same (sameL_fr (fun a i l => live_S4 l) f1) V0
          obtain ⟨u1, u2, u3, u4, u5, ⟨u6a, u6b, _⟩, ⟨u7a, u7b, u7⟩, u8, u9⟩ := id VJ
          refine wp_f (nI_nlt (b := x) (a := 20) (by omega) (by omega)) (wp_let ?_)
          rw [show e_ui J 83 27 (nI x) 85 (72 : Int32).toNatClampNeg = nI nx from u6b, show e_ui J 83 27 (nI x) 85 (73 : Int32).toNatClampNeg = nI fc from u7b]
          refine wp_e1 (M_placeOf (O := O) (c := c) u4 v1.1.2 hp ep (by omega) (VW_n VJ)) ?_
          have ix : (8 : Int32) * nI Q + nI B = nI (Q * 8 + B) := by rw [n8, nI_mul, nI_add, Nat.mul_comm]
          refine wp_c2 (M_out (kd := 2) (sl := x) (at0 := 60) (OR := O) u3 u1 (fun _ => ui_s) (by omega) (Or.inl rfl) (show 60 + c ≤ 396 by omega) (by decide) u4 (by decide) hk (by omega) (by omega)) (fun J2 M2 h2 => ?_)
          obtain ⟨i1, i2, i4⟩ := h2
          rw [ix]
          refine wp_as (nI_ix (by omega) (by omega)) ?_
          rw [nI_clamp (n := Q * 8 + B) (by omega)]
          have mm := ((i4.2.2 (K - 1) (by omega)).2.2 rfl) (Q * 8 + B) (by omega)
          have e1 : K - 1 + 1 = K := by omega
          have e2 : sSc c 2 = 400 := rfl
          rw [e1, shl_top hp, ep, e2] at mm
          have mm : J2 91 (Q * 8 + B) = _ := mm
          rw [mm]
          have f2 : fr m_S4 J0 J2 := fr_tr f1 (fr_mono (fun a i z => by unfold m_S4; rcases z with z | z | z <;> omega) i1)
          have z2 : c_Z M2 := c_Z_SL i2 hz
          have cl := sC_lt (s := s) (d := d) (f := f) (u := 400 ^ (K - 1)) (sl := x) (st := Q * 8 + B) (V := LV s d f c x ti 2 K p fc CH O (K - 1)) (sh := sh1 ti CH nx fc)
          by_cases z : sC s d f (400 ^ (K - 1)) x (LV s d f c x ti 2 K p fc CH O (K - 1)) (sh1 ti CH nx fc) (Q * 8 + B) = 2
          · rw [z]
            refine wp_f (fun n => n rfl) (wp_some ⟨?_, f2, z2⟩)
            have zD : sD s d f c ti K p fc nx CH O (Q * 8 + B) x = true := by
              unfold sD
              rw [z]
              rfl
            show nI x = (if sD s d f c ti K p fc nx CH O (Q * 8 + B) x then nI x else _)
            rw [if_pos zD]
          · refine wp_t (nI_n (b := 2) z (by omega) (by decide)) (wp_let ?_)
            rw [nI_1 x]
            refine wp_mono (ih (x + 1) n J0 J2 M2 V0 (by omega) (by omega) f2 z2) (fun w hw => ⟨?_, hw.2⟩)
            have zD : ¬ sD s d f c ti K p fc nx CH O (Q * 8 + B) x = true := by
              unfold sD
              intro n
              exact z (by simpa using n)
            show w.1 = (if sD s d f c ti K p fc nx CH O (Q * 8 + B) x then nI x else _)
            rw [if_neg zD]
            exact hw.1
      unfold f_X7_breaksEven
      refine wp_e1 w7 (wp_e2 (r_refused 0 I) (wp_t rfl ?_))
      refine wp_mono (L7 21 0 e_FU (r_R7 I 0) L rfl (wp_FU (by decide)) fr_rfl h115 h.2.2.2.2.1.2) (fun w hw => ?_)
      obtain ⟨w1, w2, w3, w4⟩ := hw
      have sJ : sameL (r_R7 I 0) w.2.1 := sameL_fr (fun a i l => live_11 l) w2
      rw [w8 w.2.1 w.2.2 (sJ 83 6 rfl), if_pos q]
      unfold f_X8_breaksEven_35
      refine wp_e2 (r_isRefused 0 _) (wp_t rfl ?_)
      refine wp_mono (L8 21 0 e_FU (r_R8 w.2.1 0) (r_R8 w.2.1 0) w.2.2 (VW_R8 (VW_same sJ V7)) rfl (wp_FU (by decide)) fr_rfl w4) (fun y hy => ⟨hy.1.trans w1.symm, ?_⟩)
      refine Rl_fin (v := 0) (by decide) h sJ (sameL_fr (fun a i l => live_S4 l) hy.2.1) ?_ hy.2.2
      exact (hy.2.1 11 5 (fun z => by rcases z with z | z | z <;> omega)).trans w3
    · rw [if_neg q] at w7
      refine bad 5 (by decide) (by decide) w7 ?_
      rw [w8 (r_R7 I 5) L rfl, if_neg q]
  · refine bad _ hv tA_4 (way _ rfl hv) ?_
    unfold f_X8_breaksEven
    rw [t_ahead8, r_b1]
    show (if tA (I 83 6) 1 b o k = 0 then _ else _) = _
    rw [if_neg hv]
    rfl
