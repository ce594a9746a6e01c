-- TEXT: a rule's line
theorem lo_ok : ∀ r, r < 5 → f_X8_lowOf (nI r) = some (nI (rlo r)) ∧ f_X8_highOf (nI r) = some (nI (rhi r)) ∧ rlo r ≤ 2 ∧ rhi r ≤ 99 := by decide +kernel
theorem C_isRule {r v : Nat} (hr : r < 5) (hv : v < 1000) : f_X7_isRule (nI r) (nI v) = some (if rlo r ≤ v ∧ v ≤ rhi r then 1 else 0) := by
  have w : ∀ a b : Nat, a < 1000 → b < 1000 → f_X7_within (nI v) (nI a) (nI b) = some (if a ≤ v ∧ v ≤ b then 1 else 0) := fun a b ha hb => by
    rw [r_within]
    by_cases q : a ≤ v ∧ v ≤ b
    · rw [if_pos q, if_pos ⟨nI_le q.1 (by omega), nI_le q.2 (by omega)⟩]
    · rw [if_neg q, if_neg (fun n => q ⟨(nI_leI (by omega) (by omega)).mp n.1, (nI_leI (by omega) (by omega)).mp n.2⟩)]
  have fin : ∀ c : Prop, ∀ [Decidable c], e_as ((if c then (1 : Int32) else 0) = 0 ∨ (if c then (1 : Int32) else 0) = 1) (some (if c then (1 : Int32) else 0)) = some (if c then 1 else 0) := fun c _ => by
    by_cases q : c
    · rw [if_pos q]
      exact as_1
    · rw [if_neg q]
      exact as_0
  have cs : r = 0 ∨ r = 1 ∨ r = 2 ∨ r = 3 ∨ r = 4 := by omega
  unfold f_X7_isRule
  rcases cs with rfl | rfl | rfl | rfl | rfl
  · rw [if_pos (show nI 0 = 0 from rfl), show f_X7_within (nI v) 1 2 = _ from w 1 2 (by decide) (by decide), r_b1, fin]
    rfl
  · rw [if_neg (show ¬ nI 1 = 0 by decide), if_pos (show nI 1 = 1 from rfl), show f_X7_within (nI v) 2 3 = _ from w 2 3 (by decide) (by decide), r_b1, fin]
    rfl
  · rw [if_neg (show ¬ nI 2 = 0 by decide), if_neg (show ¬ nI 2 = 1 by decide), if_pos (show nI 2 = 2 from rfl), show f_X7_within (nI v) 0 1 = _ from w 0 1 (by decide) (by decide), r_b1, fin]
    rfl
  · rw [if_neg (show ¬ nI 3 = 0 by decide), if_neg (show ¬ nI 3 = 1 by decide), if_neg (show ¬ nI 3 = 2 by decide), if_pos (show nI 3 = 3 from rfl), show f_X7_within (nI v) 0 20 = _ from w 0 20 (by decide) (by decide), r_b1, fin]
    rfl
  · rw [if_neg (show ¬ nI 4 = 0 by decide), if_neg (show ¬ nI 4 = 1 by decide), if_neg (show ¬ nI 4 = 2 by decide), if_neg (show ¬ nI 4 = 3 by decide), if_pos (show nI 4 = 4 from rfl), show f_X7_within (nI v) 1 99 = _ from w 1 99 (by decide) (by decide), r_b1, fin]
    rfl
-- the model takes a number
theorem M_takes {N p at0 lo hi : Nat} {D : Nat → Nat} {I J : e_I} (k : ST0 N D I J) (hp : p ≤ N) (ht : TK N D p J) (ha : at0 < 396) (hlo : lo < 1000) (hhi : hi < 1000) : (tk N D p ≠ 1 ∧ f_X8_takes (nI at0) (nI lo) (nI hi) J = some (0, e_ui (e_ui J 83 17 1) 83 18 (e_ui J 83 17 1 83 12))) ∨ (tk N D p = 1 ∧ ¬ (lo ≤ tv N D p ∧ tv N D p ≤ hi) ∧ f_X8_takes (nI at0) (nI lo) (nI hi) J = some (0, e_ui (e_ui J 83 17 2) 83 18 (e_ui J 83 17 2 83 12))) ∨ (tk N D p = 1 ∧ (lo ≤ tv N D p ∧ tv N D p ≤ hi) ∧ ∃ K, f_X8_takes (nI at0) (nI lo) (nI hi) J = some (1, K) ∧ fr gS8 (e_ui J 86 at0 (nI (tv N D p))) K ∧ TK N D (te N D p) K) := by
  have te1 := te_le (D := D) hp
  unfold f_X8_takes
  rw [ht.2.2.1]
  by_cases h1 : tk N D p = 1
  · have vl := tv_le h1
    have ix : e_ix (nI at0) 396 = true := nI_ix ha (by omega)
    rw [if_pos (mk_3.mpr h1), ht.2.2.2 h1, r_in, r_b1]
    by_cases q : lo ≤ tv N D p ∧ tv N D p ≤ hi
    · have q' : nI lo ≤ nI (tv N D p) ∧ nI (tv N D p) ≤ nI hi := ⟨nI_le q.1 (by omega), nI_le q.2 (by omega)⟩
      refine Or.inr (Or.inr ⟨h1, q, ?_⟩)
      have k' : ST0 N D I (e_ui J 86 at0 (nI (tv N D p))) := ST0_fr (fun _ => rfl) rfl (fun _ => rfl) rfl (fun i => ui_a (by decide)) (ui_a (by decide)) k
      obtain ⟨K, e, g1, g2⟩ := st_M k' te1.2 ((ui_a (by decide)).trans ht.2.1)
      refine ⟨K, ?_, g1, g2⟩
      rw [if_pos q', if_pos (by decide)]
      unfold e_as
      rw [if_pos ix, let_eq, nI_clamp (n := at0) (by omega), e, r_b1]
    · have q' : ¬ (nI lo ≤ nI (tv N D p) ∧ nI (tv N D p) ≤ nI hi) := fun n => q ⟨(nI_leI (by omega) (by omega)).mp n.1, (nI_leI (by omega) (by omega)).mp n.2⟩
      refine Or.inr (Or.inl ⟨h1, q, ?_⟩)
      rw [if_neg q', if_neg (fun n => n rfl), er_eq, r_b2]
      exact as_0
  · refine Or.inl ⟨h1, ?_⟩
    rw [if_neg (fun n => h1 (mk_3.mp n)), er_eq, r_b2]
    exact as_0
theorem S_rule {N p cnt r : Nat} {D : Nat → Nat} {I J : e_I} (hr : r < 5) (k : ST0 N D I J) (sh : SH cnt I J) (hp : p ≤ N) (ck : CK N D p I) (ht : TK N D p J) : wp (f_X6_readRule (nI r) I) (fun x => wp (f_X8_readOnce (nI r) J) (fun y => LN N D (te N D p) I J x.1 x.2 y.1 y.2)) := by
  have te1 := te_le (D := D) hp
  have ix : e_ix (nI r) 5 = true := nI_ix hr (by omega)
  have cr : (nI r).toNatClampNeg = r := nI_clamp (by omega)
  unfold f_X6_readRule
  refine wp_as ix ?_
  rw [cr]
  rcases sh.2.1 r hr with ⟨c0, m0⟩ | ⟨c1, m1⟩
  · refine wp_t c0 (wp_as ix (wp_let ?_))
    have nar : vp_nar .boolean 1 = 1 := by decide
    rw [nar]
    -- both note that the rule is told
    have kk : ST0 N D (e_ui I 7 r 1) (e_ui J 83 16 (J 83 16 ||| ((1 : Int32) <<< (nI r &&& 31)))) := ST0_fr (fun i => ui_a (by decide)) (ui_a (by decide)) (fun i => ui_a (by decide)) (ui_a (by decide)) (fun i => ui_a (by decide)) (ui_i (by decide)) k
    have sh' : SH cnt (e_ui I 7 r 1) (e_ui J 83 16 (J 83 16 ||| ((1 : Int32) <<< (nI r &&& 31)))) := by
      obtain ⟨⟨a, b, c⟩, t, ru, bt⟩ := sh
      refine ⟨⟨a, (ui_a (by decide)).trans b, (ui_a (by decide)).trans c⟩, fun x hx => ?_, fun x hx => ?_, fun b hb => BAT_fr (ui_a (by decide)) (fun e _ => ui_a (by decide)) (fun e _ => ui_a (by decide)) (ui_a (by decide)) (fun k _ => ui_a (by decide)) (bt b hb)⟩
      · have e16 : (e_ui J 83 16 (J 83 16 ||| ((1 : Int32) <<< (nI r &&& 31)))) 83 16 = (J 83 16 ||| ((1 : Int32) <<< (nI r &&& 31))) := ui_s
        rw [e16]
        by_cases q : x = r
        · subst q
          refine Or.inr ⟨?_, (b1t_or (by omega) (by omega)).mpr (Or.inr rfl)⟩
          rw [(ui_s : e_ui I 7 x 1 7 x = 1)]
          decide
        · rw [(ui_i q : e_ui I 7 r 1 7 x = I 7 x)]
          rcases t x hx with ⟨a1, a2⟩ | ⟨a1, a2⟩
          · exact Or.inl ⟨a1, fun n => by
              rcases (b1t_or (by omega) (by omega)).mp n with n | n
              · exact a2 n
              · exact q n⟩
          · exact Or.inr ⟨a1, (b1t_or (by omega) (by omega)).mpr (Or.inl a2)⟩
      · obtain ⟨v, v1, v2, v3⟩ := ru x hx
        exact ⟨v, (ui_a (by decide)).trans v1, (ui_a (by decide)).trans v2, v3⟩
    have f1 : fr fC I (e_ui I 7 r 1) := fr_ui (Or.inr (Or.inr (Or.inr (Or.inr rfl))))
    have f2 : fr fM J (e_ui J 83 16 (J 83 16 ||| ((1 : Int32) <<< (nI r &&& 31)))) := fr_ui (Or.inl ⟨rfl, by decide, by decide⟩)
    have u10 : (e_ui I 7 r 1) 1 10 = nI (te N D p) := (ui_a (by decide)).trans ck.2.1
    have u13 : (e_ui J 83 16 (J 83 16 ||| ((1 : Int32) <<< (nI r &&& 31)))) 83 13 = nI (te N D p) := (ui_i (by decide)).trans ht.2.1
    have w8 : f_X8_readOnce (nI r) J = e_b1 (f_X8_goesOn (e_ui J 83 16 (J 83 16 ||| ((1 : Int32) <<< (nI r &&& 31))))) (fun (I_3 : e_I) => e_b2 (f_X8_takes (nI (1 + r)) (nI (rlo r)) (nI (rhi r)) I_3) (fun (r_6 : Int32) (I_7 : e_I) => e_as (r_6 = 0 ∨ r_6 = 1) (some (r_6, I_7)))) := by
      unfold f_X8_readOnce
      obtain ⟨l1, l2, _⟩ := lo_ok r hr
      have s1 : (1 : Int32) + nI r = nI (1 + r) := nI_add 1 r
      have m0' : ((J 83 16 >>> (nI r &&& 31)) &&& 1) ≠ 1 := m0
      rw [if_pos m0', let_eq, l1, l2, s1]
      rfl
    rw [w8]
    generalize e_ui I 7 r 1 = I1 at kk sh' f1 u10 ⊢
    generalize e_ui J 83 16 (J 83 16 ||| ((1 : Int32) <<< (nI r &&& 31))) = J1 at kk sh' f2 u13 ⊢
    obtain ⟨I2, e2, g1, g2⟩ := st_C kk te1.2 u10
    obtain ⟨J2, e3, g3, g4⟩ := st_M kk te1.2 u13
    have k2 := ST0_s g1 g3 kk
    have s2 := SH_s g1 g3 sh'
    have p1 := te_le (D := D) te1.2
    have p1' := tq_le (D := D) te1.2
    have F1 : fr fC I I2 := fr_tr f1 (fr_mono (fun a i z => sS_fC z) g1)
    have F2 : fr fM J J2 := fr_tr f2 (fr_mono (fun a i z => gS_fM z) g3)
    obtain ⟨_, _, lo2, hi9⟩ := lo_ok r hr
    refine wp_e1 e2 ?_
    rw [e3, r_b1, g2.2.2.1]
    rcases M_takes k2 te1.2 g4 (at0 := 1 + r) (lo := rlo r) (hi := rhi r) (by omega) (by omega) (by omega) with ⟨n1, e⟩ | ⟨n1, n2, e⟩ | ⟨n1, n2, K, e, x1, x2⟩
    · have t4 : ∀ j, j = tk N D (te N D p) → j ≤ 4 := fun j hj => by
        rw [hj]
        unfold tk
        split
        · split
          · split <;> omega
          · split
            · split <;> omega
            · split <;> omega
        · omega
      have t4' := t4 _ rfl
      refine wp_f (nI_n (b := 1) n1 (by omega) (by decide)) ?_
      rw [bl_eq, r_b2, e, r_b2]
      refine wp_as (Or.inl rfl) (wp_some (wp_as (Or.inl rfl) (wp_some ?_)))
      exact LN_bad F1 F2 g2.1 g4.1 ⟨by decide, by decide⟩ (F := 1) rfl
    · refine wp_t (by rw [n1]; rfl) ?_
      rw [g2.2.2.2.2 n1, C_isRule hr (by have := tv_le n1; omega), r_b1, if_neg n2, bl_eq, r_b2, e, r_b2]
      refine wp_f (fun n => n rfl) (wp_as (Or.inl rfl) (wp_some (wp_as (Or.inl rfl) (wp_some ?_))))
      exact LN_bad F1 F2 g2.1 g4.1 ⟨by decide, by decide⟩ (F := 2) rfl
    · refine wp_t (by rw [n1]; rfl) ?_
      rw [g2.2.2.2.2 n1, C_isRule hr (by have := tv_le n1; omega), r_b1, if_pos n2, e, r_b2]
      refine wp_t (by decide) (wp_as ix (wp_let (wp_some (wp_as (Or.inr rfl) (wp_some ?_)))))
      have fI : fr fC I2 (e_ui I2 4 r (nI (tv N D (te N D p)))) := fr_ui (Or.inr (Or.inr (Or.inr (Or.inl rfl))))
      have fJ : fr fM J2 (e_ui J2 86 (1 + r) (nI (tv N D (te N D p)))) := fr_ui (Or.inr (Or.inl rfl))
      have k3 : ST0 N D (e_ui I2 4 r (nI (tv N D (te N D p)))) (e_ui J2 86 (1 + r) (nI (tv N D (te N D p)))) := ST0_fr (fun i => ui_a (by decide)) (ui_a (by decide)) (fun i => ui_a (by decide)) (ui_a (by decide)) (fun i => ui_a (by decide)) (ui_a (by decide)) k2
      have s3 : SH cnt (e_ui I2 4 r (nI (tv N D (te N D p)))) (e_ui J2 86 (1 + r) (nI (tv N D (te N D p)))) := by
        obtain ⟨⟨a, b, c⟩, t, ru, bt⟩ := s2
        refine ⟨⟨a, (ui_a (by decide)).trans b, (ui_i (by omega)).trans c⟩, fun x hx => ?_, fun x hx => ?_, fun b hb => BAT_fr (ui_a (by decide)) (fun e _ => ui_a (by decide)) (fun e _ => ui_i (by omega)) (ui_i (by omega)) (fun k _ => ui_a (by decide)) (bt b hb)⟩
        · have a1 : e_ui I2 4 r (nI (tv N D (te N D p))) 7 x = I2 7 x := ui_a (by decide)
          have a2 : e_ui J2 86 (1 + r) (nI (tv N D (te N D p))) 83 16 = J2 83 16 := ui_a (by decide)
          rw [a1, a2]
          exact t x hx
        · by_cases q : x = r
          · subst q
            exact ⟨_, ui_s, ui_s, n2⟩
          · obtain ⟨v, v1, v2, v3⟩ := ru x hx
            exact ⟨v, (ui_i q).trans v1, (ui_i (by omega)).trans v2, v3⟩
      refine ⟨fr_tr F1 fI, fr_tr F2 (fr_tr fJ (fr_mono (fun a i z => gS_fM z) x1)), Or.inl ⟨rfl, rfl, te N D (te N D p), cnt, by omega, ST0_s fr_rfl x1 k3, SH_s fr_rfl x1 s3, p1.2, ?_, x2⟩⟩
      show e_ui I2 4 r (nI (tv N D (te N D p))) 1 10 = nI (te N D (te N D p))
      exact (ui_a (by decide)).trans g2.2.1
  · refine wp_f c1 ?_
    rw [bl_eq, r_b2]
    refine wp_as (Or.inl rfl) (wp_some ?_)
    unfold f_X8_readOnce
    have m1 : ((J 83 16 >>> (nI r &&& 31)) &&& 1) = 1 := m1
    refine wp_f (fun n => n m1) ?_
    rw [er_eq, r_b2]
    exact wp_as (Or.inl rfl) (wp_some (LN_bad fr_rfl fr_rfl ck.1 ht.1 ⟨by decide, by decide⟩ (F := 3) rfl))
-- TEXT: a batter's line
theorem tw20 {v s : Nat} (hv : v < 1000) (hs : s < 1000) : nI v = 20 - nI s ↔ s + v = 20 := by
  have e : nI v = 20 - nI s ↔ nI v + nI s = 20 := by
    constructor
    · intro h
      rw [h, Int32.sub_add_cancel]
    · intro h
      rw [← h, Int32.add_sub_cancel]
  rw [e, nI_add]
  have k : nI (v + s) = 20 ↔ v + s = 20 := nI_eq (b := 20) (by omega) (by decide)
  rw [k]
  omega
theorem M_chs {N p cnt e s : Nat} {D : Nat → Nat} {I J : e_I} (k : ST0 N D I J) (hp : p ≤ N) (ht : TK N D p J) (hc : cnt < 9) (he : e < 6) (hs1 : s ≤ 200) {k229 k179 k204 : e_I → Option (Int32 × e_I)} (h179 : ∀ J, k179 J = some (0, e_ui (e_ui J 83 17 2) 83 18 (e_ui J 83 17 2 83 12))) (h204 : ∀ J, k204 J = some (0, J)) (n : Nat) :
    (tk N D p ≠ 1 ∧ f_X8_readBatter_140 (nI cnt) k229 k179 k204 (n + 1) (20 - nI s) (nI e) J = some (0, e_ui (e_ui J 83 17 1) 83 18 (e_ui J 83 17 1 83 12))) ∨ (tk N D p = 1 ∧ (20 < tv N D p ∨ (e = 5 ∧ s + tv N D p ≠ 20)) ∧ f_X8_readBatter_140 (nI cnt) k229 k179 k204 (n + 1) (20 - nI s) (nI e) J = some (0, e_ui (e_ui J 83 17 2) 83 18 (e_ui J 83 17 2 83 12))) ∨ (tk N D p = 1 ∧ tv N D p ≤ 20 ∧ (e = 5 → s + tv N D p = 20) ∧ ∃ K, fr gS8 (e_ui J 86 (6 + (6 * cnt + e)) (nI (tv N D p))) K ∧ TK N D (te N D p) K ∧ f_X8_readBatter_140 (nI cnt) k229 k179 k204 (n + 1) (20 - nI s) (nI e) J = f_X8_readBatter_140 (nI cnt) k229 k179 k204 n (20 - nI (s + tv N D p)) (nI (e + 1)) K) := by
  have lt : ¬ nI e ≥ 6 := c_ge (N := 6) he (by decide)
  have at0 : (6 : Int32) + (6 : Int32) * nI cnt + nI e = nI (6 + (6 * cnt + e)) := by
    have a : (6 : Int32) * nI cnt = nI (6 * cnt) := nI_mul 6 cnt
    have b : (6 : Int32) + nI (6 * cnt) = nI (6 + 6 * cnt) := nI_add 6 _
    rw [a, b, nI_add, Nat.add_assoc]
  have ix : e_ix (nI (6 + (6 * cnt + e))) 396 = true := nI_ix (by omega) (by omega)
  have tk4 := M_takes k hp ht (at0 := 6 + (6 * cnt + e)) (lo := 0) (hi := 20) (by omega) (by decide) (by decide)
  -- the way through 172 with 0
  have way : (tk N D p ≠ 1 ∧ f_X8_readBatter_171 (nI cnt) (fun v2 v3 I => f_X8_readBatter_140 (nI cnt) k229 k179 k204 n v2 v3 I) k229 k179 k204 (20 - nI s) (nI e) J = some (0, e_ui (e_ui J 83 17 1) 83 18 (e_ui J 83 17 1 83 12))) ∨ (tk N D p = 1 ∧ 20 < tv N D p ∧ f_X8_readBatter_171 (nI cnt) (fun v2 v3 I => f_X8_readBatter_140 (nI cnt) k229 k179 k204 n v2 v3 I) k229 k179 k204 (20 - nI s) (nI e) J = some (0, e_ui (e_ui J 83 17 2) 83 18 (e_ui J 83 17 2 83 12))) ∨ (tk N D p = 1 ∧ tv N D p ≤ 20 ∧ ∃ K, fr gS8 (e_ui J 86 (6 + (6 * cnt + e)) (nI (tv N D p))) K ∧ TK N D (te N D p) K ∧ f_X8_readBatter_171 (nI cnt) (fun v2 v3 I => f_X8_readBatter_140 (nI cnt) k229 k179 k204 n v2 v3 I) k229 k179 k204 (20 - nI s) (nI e) J = f_X8_readBatter_140 (nI cnt) k229 k179 k204 n (20 - nI (s + tv N D p)) (nI (e + 1)) K) := by
    unfold f_X8_readBatter_171 f_X8_readBatter_172
    rw [if_pos rfl, at0]
    rcases tk4 with ⟨n1, e1'⟩ | ⟨n1, n2, e1'⟩ | ⟨n1, n2, K, e1', x1, x2⟩
    · refine Or.inl ⟨n1, ?_⟩
      rw [show f_X8_takes (nI (6 + (6 * cnt + e))) 0 20 J = _ from e1', r_b2, if_neg (fun n => n rfl), h204]
    · refine Or.inr (Or.inl ⟨n1, by omega, ?_⟩)
      rw [show f_X8_takes (nI (6 + (6 * cnt + e))) 0 20 J = _ from e1', r_b2, if_neg (fun n => n rfl), h204]
    · refine Or.inr (Or.inr ⟨n1, n2.2, K, x1, x2, ?_⟩)
      have kv : K 86 (6 + (6 * cnt + e)) = nI (tv N D p) := (x1 86 _ (fun z => by cases z.1)).trans ui_s
      have sub : (20 : Int32) - nI s - nI (tv N D p) = 20 - nI (s + tv N D p) := by
        rw [← nI_add]
        exact Int32.sub_sub ..
      rw [show f_X8_takes (nI (6 + (6 * cnt + e))) 0 20 J = _ from e1', r_b2, if_pos (by decide)]
      unfold e_as
      rw [if_pos ix, nI_clamp (n := 6 + (6 * cnt + e)) (by omega), kv, sub, let_eq, let_eq, nI_1 e]
  rw [f_X8_readBatter_140, if_neg lt]
  by_cases h5 : e = 5
  · rw [if_neg (fun n => n (by rw [h5]; rfl)), ht.2.2.1]
    by_cases h1 : tk N D p = 1
    · have vl := tv_le h1
      have tw := tw20 (v := tv N D p) (s := s) (by omega) (by omega)
      rw [if_neg (fun n => n (mk_3.mpr h1)), ht.2.2.2 h1]
      by_cases q : s + tv N D p = 20
      · rw [if_pos (tw.mpr q)]
        rcases way with ⟨a, b⟩ | ⟨a, b, _⟩ | ⟨a, b, c⟩
        · exact absurd h1 a
        · omega
        · exact Or.inr (Or.inr ⟨a, b, fun _ => q, c⟩)
      · rw [if_neg (fun n => q (tw.mp n))]
        refine Or.inr (Or.inl ⟨h1, Or.inr ⟨h5, q⟩, ?_⟩)
        unfold f_X8_readBatter_172
        rw [if_neg (by decide), h179]
    · rw [if_pos (fun n => h1 (mk_3.mp n))]
      rcases way with ⟨a, b⟩ | ⟨a, _⟩ | ⟨a, _⟩
      · exact Or.inl ⟨a, b⟩
      · exact absurd a h1
      · exact absurd a h1
  · have n5 : nI e ≠ 5 := nI_n (b := 5) h5 (by omega) (by decide)
    rw [if_pos n5]
    rcases way with ⟨a, b⟩ | ⟨a, b, c⟩ | ⟨a, b, c⟩
    · exact Or.inl ⟨a, b⟩
    · exact Or.inr (Or.inl ⟨a, Or.inl b, c⟩)
    · exact Or.inr (Or.inr ⟨a, b, fun n => absurd n h5, c⟩)
theorem S_ch {N cnt : Nat} {D : Nat → Nat} (hc : cnt < 9) {k85 k22 k55 k229 k179 k204 : e_I → Option (Int32 × e_I)} (h85 : ∀ I, k85 I = some (1, e_ui I 1 4 (I 1 4 + 1))) (h22 : ∀ I, k22 I = some (0, e_ui I 1 13 1)) (h55 : ∀ I, k55 I = some (0, e_ui I 1 13 2)) (h229 : ∀ J, k229 J = some (1, e_ui (e_ui J 86 (60 + cnt) (nI cnt)) 86 0 (e_ui J 86 (60 + cnt) (nI cnt) 86 0 + 1))) (h179 : ∀ J, k179 J = some (0, e_ui (e_ui J 83 17 2) 83 18 (e_ui J 83 17 2 83 12))) (h204 : ∀ J, k204 J = some (0, J)) : ∀ m e n n' p I J f, e + m = 6 → m < n → m < n' → ST0 N D I J → SH cnt I J → p ≤ N → I 1 10 = nI p → TK N D p J → r_name (I 2) (J 88) cnt → (∀ x, x < e → I 3 (6 * cnt + x) = nI (f x) ∧ J 86 (6 + (6 * cnt + x)) = nI (f x) ∧ f x ≤ 20) → hs f e ≤ 20 * e → (e = 6 → hs f 6 = 20) → wp (f_X6_readChances_4 k85 k22 k55 n (nI (hs f e)) (nI e) I) (fun x => wp (f_X8_readBatter_140 (nI cnt) k229 k179 k204 n' (20 - nI (hs f e)) (nI e) J) (fun y => LN N D p I J x.1 x.2 y.1 y.2)) := by
  intro m
  induction m with
  | zero =>
    intro e n n' p I J f h0 hn hn' k sh hp h10 ht hr hx hb h20
    obtain ⟨n, rfl⟩ : ∃ k, n = k + 1 := ⟨n - 1, by omega⟩
    obtain ⟨n', rfl⟩ : ∃ k, n' = k + 1 := ⟨n' - 1, by omega⟩
    have h0 : e = 6 := h0
    subst h0
    rw [f_X6_readChances_4, if_pos (show nI 6 ≥ 6 by decide), h85]
    refine wp_some ?_
    rw [f_X8_readBatter_140, if_pos (show nI 6 ≥ 6 by decide), h229]
    refine wp_some ?_
    obtain ⟨⟨a, b, c⟩, t, ru, bt⟩ := sh
    have i4 : I 1 4 + 1 = nI (cnt + 1) := by rw [b, nI_1]
    have j0 : e_ui J 86 (60 + cnt) (nI cnt) 86 0 + 1 = nI (cnt + 1) := by
      rw [(ui_i (by omega) : e_ui J 86 (60 + cnt) (nI cnt) 86 0 = J 86 0), c, nI_1]
    rw [i4, j0]
    have o86 : ∀ i, i ≠ 0 → i ≠ 60 + cnt → (e_ui (e_ui J 86 (60 + cnt) (nI cnt)) 86 0 (nI (cnt + 1))) 86 i = J 86 i := fun i x y => (ui_i x).trans (ui_i y)
    have o : ∀ a i, a ≠ 86 → (e_ui (e_ui J 86 (60 + cnt) (nI cnt)) 86 0 (nI (cnt + 1))) a i = J a i := fun a i x => (ui_a x).trans (ui_a x)
    have i1 : ∀ a i, a ≠ 1 → (e_ui I 1 4 (nI (cnt + 1))) a i = I a i := fun a i x => ui_a x
    have i2 : ∀ i, i ≠ 4 → (e_ui I 1 4 (nI (cnt + 1))) 1 i = I 1 i := fun i x => ui_i x
    have i3 : (e_ui I 1 4 (nI (cnt + 1))) 1 4 = nI (cnt + 1) := ui_s
    have o0 : (e_ui (e_ui J 86 (60 + cnt) (nI cnt)) 86 0 (nI (cnt + 1))) 86 0 = nI (cnt + 1) := ui_s
    have o60 : (e_ui (e_ui J 86 (60 + cnt) (nI cnt)) 86 0 (nI (cnt + 1))) 86 (60 + cnt) = nI cnt := (ui_i (by omega)).trans ui_s
    have fI : fr fC I (e_ui I 1 4 (nI (cnt + 1))) := fr_ui (Or.inl ⟨rfl, Or.inl rfl⟩)
    have fJ : fr fM J (e_ui (e_ui J 86 (60 + cnt) (nI cnt)) 86 0 (nI (cnt + 1))) := fr_tr (fr_ui (Or.inr (Or.inl rfl))) (fr_ui (Or.inr (Or.inl rfl)))
    generalize e_ui (e_ui J 86 (60 + cnt) (nI cnt)) 86 0 (nI (cnt + 1)) = Y at o86 o o0 o60 fJ ⊢
    generalize e_ui I 1 4 (nI (cnt + 1)) = X at i1 i2 i3 fI ⊢
    refine ⟨fI, fJ, Or.inl ⟨rfl, rfl, p, cnt + 1, Nat.le_refl p, ?_, ⟨⟨by omega, i3, o0⟩, fun x hx => ?_, fun x hx => ?_, fun b hb => ?_⟩, hp, (i2 10 (by decide)).trans h10, ?_⟩⟩
    · exact ST0_fr (fun i => i1 5 i (by decide)) (i2 9 (by decide)) (fun i => i1 6 i (by decide)) (i2 13 (by decide)) (fun i => o 84 i (by decide)) (o 83 11 (by decide)) k
    · show (X 7 x = 0 ∧ ¬ b1t (Y 83 16) x) ∨ (X 7 x ≠ 0 ∧ b1t (Y 83 16) x)
      rw [i1 7 x (by decide), o 83 16 (by decide)]
      exact t x hx
    · obtain ⟨v, v1, v2, v3⟩ := ru x hx
      exact ⟨v, (i1 4 x (by decide)).trans v1, (o86 _ (by omega) (by omega)).trans v2, v3⟩
    · by_cases q : b = cnt
      · subst q
        refine ⟨⟨f, fun x hx2 => ⟨(i1 3 _ (by decide)).trans (hx x hx2).1, (o86 _ (by omega) (by omega)).trans (hx x hx2).2.1, (hx x hx2).2.2⟩, h20 rfl⟩, o60, ?_⟩
        obtain ⟨w, w1, w2, w3⟩ := hr
        exact ⟨w, w1, (i1 2 _ (by decide)).trans w2, fun j hj => (o 88 _ (by decide)).trans (w3 j hj)⟩
      · exact BAT_fr (I := I) (J := J) (i1 2 b (by decide)) (fun x _ => i1 3 _ (by decide)) (fun x _ => o86 _ (by omega) (by omega)) (o86 _ (by omega) (by omega)) (fun j _ => o 88 _ (by decide)) (bt b (by omega))
    · exact ⟨(o 83 12 (by decide)).trans ht.1, (o 83 13 (by decide)).trans ht.2.1, (o 83 14 (by decide)).trans ht.2.2.1, fun z => (o 83 15 (by decide)).trans (ht.2.2.2 z)⟩
  | succ m ih =>
    intro e n n' p I J f h0 hn hn' k sh hp h10 ht hr hx hb h20
    obtain ⟨n, rfl⟩ : ∃ k, n = k + 1 := ⟨n - 1, by omega⟩
    obtain ⟨n', rfl⟩ : ∃ k, n' = k + 1 := ⟨n' - 1, by omega⟩
    have he : e < 6 := by omega
    have lt : ¬ nI e ≥ 6 := c_ge (N := 6) he (by decide)
    obtain ⟨I2, e2', g1, g2⟩ := st_C k hp h10
    have F1 : fr fC I I2 := fr_mono (fun a i z => sS_fC z) g1
    have t4 : tk N D p ≤ 4 := by
      unfold tk
      split
      · split
        · split <;> omega
        · split
          · split <;> omega
          · split <;> omega
      · omega
    rw [f_X6_readChances_4, if_neg lt, e2', r_b1, g2.2.2.1]
    rcases M_chs (k229 := k229) (s := hs f e) k hp ht hc he (by omega) h179 h204 n' with ⟨n1, w8⟩ | ⟨n1, n2, w8⟩ | ⟨n1, n2, n3, K, x1, x2, w8⟩
    · have ne1 : ¬ nI (tk N D p) = 1 := nI_n (b := 1) n1 (by omega) (by decide)
      rw [if_neg ne1, h22, w8]
      exact wp_some (wp_some (LN_bad F1 fr_rfl g2.1 ht.1 ⟨by decide, by decide⟩ (F := 1) rfl))
    · have vl := tv_le n1
      rw [if_pos (by rw [n1]; rfl), let_eq, g2.2.2.2.2 n1, w8]
      have fin : wp (k55 I2) (fun x => wp (some ((0 : Int32), e_ui (e_ui J 83 17 2) 83 18 (e_ui J 83 17 2 83 12))) (fun y => LN N D p I J x.1 x.2 y.1 y.2)) := by
        rw [h55]
        exact wp_some (wp_some (LN_bad F1 fr_rfl g2.1 ht.1 ⟨by decide, by decide⟩ (F := 2) rfl))
      by_cases q : 20 < tv N D p
      · exact wp_t (nI_lt (a := 20) q (by omega)) fin
      · have q5 := n2.resolve_left q
        have x4 : nI (hs f e) + nI (tv N D p) = 20 ↔ hs f e + tv N D p = 20 := by
          rw [nI_add]
          exact nI_eq (b := 20) (by omega) (by decide)
        refine wp_f (c_gt (N := 20) (by omega) (by decide)) (wp_f (fun n => n (by rw [q5.1]; rfl)) (wp_f (fun n => q5.2 (x4.mp n)) fin))
    · have at0 : I2 1 4 * 6 + nI e = nI (6 * cnt + e) := by
        have a : nI cnt * 6 = nI (cnt * 6) := nI_mul cnt 6
        rw [(g1 1 4 (fun z => by have := z.2; omega)).trans sh.1.2.1, a, nI_add, Nat.mul_comm]
      rw [if_pos (by rw [n1]; rfl), let_eq, g2.2.2.2.2 n1, w8, nI_add]
      have go : wp (f_X6_readChances_61 (fun v1 v2 I => f_X6_readChances_4 k85 k22 k55 n v1 v2 I) k85 k22 k55 (nI (hs f e + tv N D p)) (nI e) I2) (fun x => wp (f_X8_readBatter_140 (nI cnt) k229 k179 k204 n' (20 - nI (hs f e + tv N D p)) (nI (e + 1)) K) (fun y => LN N D p I J x.1 x.2 y.1 y.2)) := by
        unfold f_X6_readChances_61
        rw [at0]
        refine wp_as (nI_ix (by omega) (by omega)) (wp_let (wp_let ?_))
        rw [nI_1 e, nI_clamp (n := 6 * cnt + e) (by omega), g2.2.2.2.2 n1]
        have te1 := te_le (D := D) hp
        have p1 := tq_le (D := D) hp
        have eh : hs (upR f e (tv N D p)) (e + 1) = hs f e + tv N D p := by
          show hs (upR f e (tv N D p)) e + upR f e (tv N D p) e = _
          rw [upR_s, hs_congr e (fun x hx2 => upR_o (by omega))]
        have i2 : ∀ a i, a ≠ 3 → (e_ui I2 3 (6 * cnt + e) (nI (tv N D p))) a i = I2 a i := fun a i x => ui_a x
        have kU : ST0 N D (e_ui I2 3 (6 * cnt + e) (nI (tv N D p))) (e_ui J 86 (6 + (6 * cnt + e)) (nI (tv N D p))) := ST0_fr (fun i => i2 5 i (by decide)) (i2 1 9 (by decide)) (fun i => i2 6 i (by decide)) (i2 1 13 (by decide)) (fun i => ui_a (by decide)) (ui_a (by decide)) (ST0_s g1 fr_rfl k)
        have shU : SH cnt (e_ui I2 3 (6 * cnt + e) (nI (tv N D p))) (e_ui J 86 (6 + (6 * cnt + e)) (nI (tv N D p))) := by
          obtain ⟨⟨a, b, c⟩, t, ru, bt⟩ := SH_s g1 fr_rfl sh
          refine ⟨⟨a, (i2 1 4 (by decide)).trans b, (ui_i (by omega)).trans c⟩, fun x hx2 => ?_, fun x hx2 => ?_, fun b hb2 => BAT_fr (i2 2 b (by decide)) (fun x _ => ui_i (by omega)) (fun x _ => ui_i (by omega)) (ui_i (by omega)) (fun j _ => ui_a (by decide)) (bt b hb2)⟩
          · have a2 : (e_ui J 86 (6 + (6 * cnt + e)) (nI (tv N D p))) 83 16 = J 83 16 := ui_a (by decide)
            rw [i2 7 x (by decide), a2]
            exact t x hx2
          · obtain ⟨v, v1, v2, v3⟩ := ru x hx2
            exact ⟨v, (i2 4 x (by decide)).trans v1, (ui_i (by omega)).trans v2, v3⟩
        have r2 : ∀ x, x < e + 1 → (e_ui I2 3 (6 * cnt + e) (nI (tv N D p))) 3 (6 * cnt + x) = nI (upR f e (tv N D p) x) ∧ (e_ui J 86 (6 + (6 * cnt + e)) (nI (tv N D p))) 86 (6 + (6 * cnt + x)) = nI (upR f e (tv N D p) x) ∧ upR f e (tv N D p) x ≤ 20 := fun x hx2 => by
          by_cases q : x = e
          · subst q
            rw [upR_s]
            exact ⟨ui_s, ui_s, n2⟩
          · rw [upR_o q]
            have z := hx x (by omega)
            exact ⟨(ui_i (by omega)).trans ((g1 3 _ (fun z => by cases z.1)).trans z.1), (ui_i (by omega)).trans z.2.1, z.2.2⟩
        have nm : r_name ((e_ui I2 3 (6 * cnt + e) (nI (tv N D p))) 2) ((e_ui J 86 (6 + (6 * cnt + e)) (nI (tv N D p))) 88) cnt := by
          obtain ⟨w, w1, w2, w3⟩ := hr
          exact ⟨w, w1, (i2 2 cnt (by decide)).trans ((g1 2 cnt (fun z => by cases z.1)).trans w2), fun j hj => (ui_a (by decide)).trans (w3 j hj)⟩
        have IH := ih (e + 1) n n' (te N D p) (e_ui I2 3 (6 * cnt + e) (nI (tv N D p))) K (upR f e (tv N D p)) (by omega) (by omega) (by omega) (ST0_s fr_rfl x1 kU) (SH_s fr_rfl x1 shU) te1.2 ((i2 1 10 (by decide)).trans g2.2.1) x2 (by
          obtain ⟨w, w1, w2, w3⟩ := nm
          exact ⟨w, w1, w2, fun j hj => (x1 88 _ (fun z => by cases z.1)).trans (w3 j hj)⟩) (fun x hx2 => ⟨(r2 x hx2).1, (x1 86 _ (fun z => by cases z.1)).trans (r2 x hx2).2.1, (r2 x hx2).2.2⟩) (by rw [eh]; omega) (fun z => by
          have e5 : e = 5 := by omega
          have q := n3 e5
          rw [← q, ← eh, z])
        rw [eh] at IH
        refine wp_mono IH (fun x hx2 => wp_mono hx2 (fun y hy => ?_))
        exact LN_fr (fr_tr F1 (fr_ui (Or.inr (Or.inr (Or.inl rfl))))) (fr_tr (fr_ui (Or.inr (Or.inl rfl))) (fr_mono (fun a i z => gS_fM z) x1)) (by omega) hy
      refine wp_f (c_gt (N := 20) n2 (by decide)) (wp_c (fun _ => go) (fun z => ?_))
      have e5 : e = 5 := by
        by_cases q : e = 5
        · exact q
        · exact absurd (nI_n (b := 5) q (by omega) (by decide)) z
      refine wp_t ?_ go
      rw [n3 e5]
      rfl
