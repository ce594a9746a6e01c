-- BEST: the model's search
def bt (U : Int32) (x : Nat) : Prop := ((U >>> (nI x &&& 31)) &&& 1) ≠ 0
theorem bt_0 : ∀ x, x < 9 → ((0 : Int32) >>> (nI x &&& 31)) &&& 1 = 0 := by decide +kernel
theorem bt_1 : ∀ x, x < 9 → ∀ y, y < 9 → (((1 : Int32) <<< (nI y &&& 31)) >>> (nI x &&& 31)) &&& 1 = if x = y then 1 else 0 := by decide +kernel
theorem and_or1 (a b : Int32) : (a ||| b) &&& 1 = (a &&& 1) ||| (b &&& 1) := by
  apply Int32.toBitVec_inj.mp
  simp [BitVec.and_or_distrib_right]
theorem or_1 (a : Int32) : (a ||| 1) ≠ 0 := fun h => by
  have e := congrArg (fun z => z &&& 1) h
  have e : (a ||| 1) &&& 1 = 0 &&& 1 := e
  rw [and_or1] at e
  have e2 := congrArg (fun z => z.toBitVec.getLsbD 0) e
  simp at e2
theorem bt_or {U : Int32} {x y : Nat} (hx : x < 9) (hy : y < 9) : bt (U ||| ((1 : Int32) <<< (nI y &&& 31))) x ↔ (bt U x ∨ x = y) := by
  unfold bt
  rw [Int32.shiftRight_or, and_or1, bt_1 x hx y hy]
  by_cases q : x = y
  · rw [if_pos q]
    exact ⟨fun _ => Or.inr q, fun _ => or_1 _⟩
  · rw [if_neg q, Int32.or_zero]
    exact ⟨fun h => Or.inl h, fun h => h.resolve_right q⟩
def upR (R : Nat → Nat) (i x p : Nat) : Nat := if p = i then x else R p
def Ext (K c i : Nat) (W : (Nat → Nat) → Nat) (R : Nat → Nat) (v k : Nat) : Prop := ∃ T, (∀ p, p < i → T p = R p) ∧ leaf K c T ∧ v = W T ∧ k = cod K c T
def ExtX (K c i : Nat) (W : (Nat → Nat) → Nat) (R : Nat → Nat) (x : Nat) (v k : Nat) : Prop := ∃ T, (∀ p, p < i → T p = R p) ∧ T i < x ∧ leaf K c T ∧ v = W T ∧ k = cod K c T
theorem upR_o {R : Nat → Nat} {i x p : Nat} (h : p ≠ i) : upR R i x p = R p := if_neg h
theorem upR_s {R : Nat → Nat} {i x : Nat} : upR R i x i = x := if_pos rfl
theorem Ext_upR {K c i x : Nat} {W : (Nat → Nat) → Nat} {R : Nat → Nat} {v k : Nat} : Ext K c (i + 1) W (upR R i x) v k ↔ ∃ T, (∀ p, p < i → T p = R p) ∧ T i = x ∧ leaf K c T ∧ v = W T ∧ k = cod K c T := by
  constructor
  · intro ⟨T, h1, h2⟩
    exact ⟨T, fun p hp => (h1 p (by omega)).trans (upR_o (by omega)), (h1 i (by omega)).trans upR_s, h2⟩
  · intro ⟨T, h1, h2, h3⟩
    refine ⟨T, fun p hp => ?_, h3⟩
    by_cases z : p = i
    · rw [z, h2, upR_s]
    · rw [h1 p (by omega), upR_o z]
theorem ExtX_1 {K c i x : Nat} {W : (Nat → Nat) → Nat} {R : Nat → Nat} {v k : Nat} : ExtX K c i W R (x + 1) v k ↔ ExtX K c i W R x v k ∨ Ext K c (i + 1) W (upR R i x) v k := by
  rw [Ext_upR]
  constructor
  · intro ⟨T, h1, h2, h3⟩
    by_cases z : T i = x
    · exact Or.inr ⟨T, h1, z, h3⟩
    · exact Or.inl ⟨T, h1, by omega, h3⟩
  · intro h
    rcases h with ⟨T, h1, h2, h3⟩ | ⟨T, h1, h2, h3⟩
    · exact ⟨T, h1, by omega, h3⟩
    · exact ⟨T, h1, by omega, h3⟩
theorem ExtX_n {K c i x : Nat} {W : (Nat → Nat) → Nat} {R : Nat → Nat} {v k : Nat} (hi : i < c) (hu : ∃ p, p < i ∧ R p = x) : ExtX K c i W R (x + 1) v k ↔ ExtX K c i W R x v k := by
  rw [ExtX_1, Ext_upR]
  constructor
  · intro h
    rcases h with h | ⟨T, h1, h2, h3, _⟩
    · exact h
    · obtain ⟨p, hp, ep⟩ := hu
      have := h3.2.1 p i (by omega) hi (by rw [h1 p hp, ep, h2])
      omega
  · exact Or.inl
theorem ExtX_e {K c i x : Nat} {W : (Nat → Nat) → Nat} {R : Nat → Nat} {v k : Nat} (h : ∀ T, (∀ p, p < i → T p = R p) → leaf K c T → T i < x) : ExtX K c i W R x v k ↔ Ext K c i W R v k := by
  constructor
  · intro ⟨T, h1, _, h3⟩
    exact ⟨T, h1, h3⟩
  · intro ⟨T, h1, h3⟩
    exact ⟨T, h1, h T h1 h3.1, h3⟩
def m_best (K c : Nat) (B : Option (Nat × Nat)) (I : e_I) (L : e_L) : Prop := match B with
  | none => L 83 30 = -1
  | some (v, k) => L 83 30 = lN v ∧ v < 2 ^ 62 ∧ L 83 26 = lN (20 ^ K) ∧ ∃ T, leaf K c T ∧ k = cod K c T ∧ ∀ p, p < c → I 94 p = nI (T p)
theorem m_best_fr {K c : Nat} {B : Option (Nat × Nat)} {I J : e_I} {L : e_L} (h : ∀ i, J 94 i = I 94 i) (hb : m_best K c B I L) : m_best K c B J L := by
  cases B with
  | none => exact hb
  | some p =>
    obtain ⟨h1, h2, h3, T, t1, t2, t3⟩ := hb
    exact ⟨h1, h2, h3, T, t1, t2, fun q hq => (h q).trans (t3 q hq)⟩
def m_SF (i a x : Nat) : Prop := m_S4 a x ∨ (a = 93 ∧ i ≤ x) ∨ a = 94
theorem SF_85 {i : Nat} {I J : e_I} (h : fr (m_SF i) I J) : ∀ k, J 85 k = I 85 k := fun k => h 85 k (fun z => by rcases z with (z | z | z) | z | z <;> omega)
theorem SF_93 {i p : Nat} {I J : e_I} (h : fr (m_SF i) I J) (hp : p < i) : J 93 p = I 93 p := h 93 p (fun z => by rcases z with (z | z | z) | z | z <;> omega)
-- one place, batter by batter
theorem M_f64 {c s d f sl ti K i : Nat} {CH : Nat → Nat → Nat} {R : Nat → Nat} {U : Int32} {W : (Nat → Nat) → Nat} {S : Nat → Nat → Prop} (hc : c ≤ 9) (h1 : 1 ≤ K) (hK : K ≤ 3) (hi : i < c) (hU : ∀ x, x < 9 → (bt U x ↔ ∃ p, p < i ∧ R p = x)) (hS : ∀ v k v' k', S v k → Ext K c i W R v' k' → k < k') {rc : Int32 → Int32 → Int32 → e_I → e_L → Option (e_I × e_L)}
    (hrc : ∀ x B S I L, x < c → (∀ p, p < i → R p ≠ x) → (K ≤ i → ∀ y, y < x → ∃ p, p < i ∧ R p = y) → MV I c s d f sl ti CH → (∀ p, p < i → I 93 p = nI (R p)) → I 93 i = nI x → m_best K c B I L → isB S B → (∀ v k v' k', S v k → Ext K c (i + 1) W (upR R i x) v' k' → k < k') → wp (rc (nI (i + 1)) (U ||| ((1 : Int32) <<< (nI x &&& 31))) (nI K) I L) (fun q => fr (m_SF (i + 1)) I q.1 ∧ frL mL L q.2 ∧ ∃ B', m_best K c B' q.1 q.2 ∧ isB (fun v k => S v k ∨ Ext K c (i + 1) W (upR R i x) v k) B')) :
    ∀ j x n B I L, x + j = c → j < n → MV I c s d f sl ti CH → (∀ p, p < i → I 93 p = nI (R p)) → (K ≤ i → ∀ y, y < x → ∃ p, p < i ∧ R p = y) → m_best K c B I L → isB (fun v k => S v k ∨ ExtX K c i W R x v k) B → wp (f_X8_fillsRow_64 rc (nI i) U (nI K) (fun (I_2 : e_I) (L_3 : e_L) => some (I_2, L_3)) n 1 (nI x) I L) (fun q => fr (m_SF i) I q.1 ∧ frL mL L q.2 ∧ ∃ B', m_best K c B' q.1 q.2 ∧ isB (fun v k => S v k ∨ Ext K c i W R v k) B') := by
  have t0 : (0 : Int32).toNatClampNeg = 0 := rfl
  have c0 : 0 < c := by omega
  intro j
  induction j with
  | zero =>
    intro x n B I L h0 hm mv hrow hfull mb hb
    obtain ⟨n', rfl⟩ : ∃ k, n = k + 1 := ⟨n - 1, by omega⟩
    have h0 : x = c := h0
    subst h0
    rw [f_X8_fillsRow_64, t0, mv.1]
    refine wp_t (nI_le (Nat.le_refl x) (by omega)) (wp_some ⟨fr_rfl, frL_rfl, B, mb, isB_congr (fun v k => ?_) hb⟩)
    rw [ExtX_e (fun T _ hT => hT.1 i hi)]
  | succ j ih =>
    intro x n B I L h0 hm mv hrow hfull mb hb
    obtain ⟨n', rfl⟩ : ∃ k, n = k + 1 := ⟨n - 1, by omega⟩
    have hx : x < c := by omega
    rw [f_X8_fillsRow_64, t0, mv.1]
    refine wp_f (c_ge hx (by omega)) (wp_f (by decide) (wp_c (fun z => ?_) (fun z => ?_)))
    · have u := (hU x (by omega)).mp z
      unfold f_X8_fillsRow_123
      refine wp_let ?_
      rw [nI_1 x]
      refine ih (x + 1) n' B I L (by omega) (by omega) mv hrow (fun hk y hy => ?_) mb (isB_congr (fun v k => ?_) hb)
      · by_cases w : y = x
        · rw [w]
          exact u
        · exact hfull hk y (by omega)
      · rw [ExtX_n hi u]
    · have nu : ∀ p, p < i → R p ≠ x := fun p hp w => z ((hU x (by omega)).mpr ⟨p, hp, w⟩)
      refine wp_as (nI_ix (by omega) (by omega)) (wp_let ?_)
      rw [nI_1 i, nI_clamp (n := i) (by omega)]
      have f5 : fr (m_SF i) I (e_ui I 93 i (nI x)) := fr_ui (Or.inr (Or.inl ⟨rfl, Nat.le_refl i⟩))
      have lt2 : ∀ v k v' k', (S v k ∨ ExtX K c i W R x v k) → Ext K c (i + 1) W (upR R i x) v' k' → k < k' := fun v k v' k' hs he => by
        obtain ⟨T, e1', e2', e3', e4', e5'⟩ := Ext_upR.mp he
        rcases hs with hs | ⟨Y, y1, y2, y3, y4, y5⟩
        · exact hS v k v' k' hs ⟨T, e1', e3', e4', e5'⟩
        · rw [y5, e5']
          exact cod_lt c0 hc hK h1 y3 e3' hi (fun p hp => (y1 p hp).trans (e1' p hp).symm) (by omega)
      refine wp_c2 (hrc x B (fun v k => S v k ∨ ExtX K c i W R x v k) (e_ui I 93 i (nI x)) L hx nu hfull (MV_85 (SF_85 f5) mv) (fun p hp => (SF_93 f5 hp).trans (hrow p hp)) ui_s (m_best_fr (fun q => ui_a (by decide)) mb) hb lt2) (fun J M hJ => ?_)
      obtain ⟨j1, j2, B', j3, j4⟩ := hJ
      have j1 : fr (m_SF (i + 1)) (e_ui I 93 i (nI x)) J := j1
      have j2 : frL mL L M := j2
      have fJ : fr (m_SF i) I J := fr_tr f5 (fr_mono (fun a q y => by
        rcases y with y | y | y
        · exact Or.inl y
        · exact Or.inr (Or.inl ⟨y.1, by omega⟩)
        · exact Or.inr (Or.inr y)) j1)
      refine wp_c (fun q => ?_) (fun q => ?_)
      · have hk : K ≤ i := by
          rcases Nat.lt_or_ge i K with w | w
          · exact absurd q (c_ge w (by omega))
          · exact w
        have fin : wp (some (J, M)) (fun q => fr (m_SF i) I q.1 ∧ frL mL L q.2 ∧ ∃ B', m_best K c B' q.1 q.2 ∧ isB (fun v k => S v k ∨ Ext K c i W R v k) B') := by
          refine wp_some ⟨fJ, j2, B', j3, isB_congr (fun v k => ?_) j4⟩
          have e := ExtX_e (K := K) (c := c) (i := i) (x := x + 1) (W := W) (R := R) (v := v) (k := k) (fun T hT lT => by
            rcases Nat.lt_or_ge x (T i) with w | w
            · obtain ⟨p, hp, ep⟩ := lT.2.2 i hk hi x w
              exact absurd ((hT p hp).symm.trans ep) (nu p hp)
            · omega)
          rw [← e, ExtX_1, or_assoc]
        unfold f_X8_fillsRow_121 f_X8_fillsRow_123
        obtain ⟨n'', rfl⟩ : ∃ k, n' = k + 1 := ⟨n' - 1, by omega⟩
        refine wp_let ?_
        rw [nI_1 x]
        show wp (f_X8_fillsRow_64 rc (nI i) U (nI K) (fun (I_2 : e_I) (L_3 : e_L) => some (I_2, L_3)) (n'' + 1) 0 (nI (x + 1)) J M) _
        rw [f_X8_fillsRow_64]
        exact wp_c (fun _ => fin) (fun _ => wp_t rfl fin)
      · have hk : i < K := by
          rcases Nat.lt_or_ge i K with w | w
          · exact w
          · exact absurd (nI_le w (by omega)) q
        unfold f_X8_fillsRow_121 f_X8_fillsRow_123
        refine wp_let ?_
        rw [nI_1 x]
        refine wp_mono (ih (x + 1) n' B' J M (by omega) (by omega) (MV_85 (SF_85 fJ) mv) (fun p hp => (SF_93 fJ hp).trans (hrow p hp)) (fun w => by omega) j3 (isB_congr (fun v k => ?_) j4)) (fun w hw => ⟨fr_tr fJ hw.1, frL_tr j2 hw.2.1, hw.2.2⟩)
        rw [ExtX_1, or_assoc]
-- BEST: the model's search, whole
theorem M_fill {c s d f sl ti K : Nat} {CH : Nat → Nat → Nat} (hn : NV c s d f sl ti CH) (h1 : 1 ≤ K) (hK : K ≤ 3) : ∀ m i n U R B S I L, i + m = c → m < n → MV I c s d f sl ti CH → pre K c i R → (∀ p, p < i → I 93 p = nI (R p)) → (∀ x, x < 9 → (bt U x ↔ ∃ p, p < i ∧ R p = x)) → m_best K c B I L → isB S B → (∀ v k v' k', S v k → Ext K c i (fun O => LV s d f c sl ti 0 K 0 0 CH O K 0) R v' k' → k < k') → wp (f_X8_fillsRowN n (nI i) U (nI K) I L) (fun q => fr (m_SF i) I q.1 ∧ frL mL L q.2 ∧ ∃ B', m_best K c B' q.1 q.2 ∧ isB (fun v k => S v k ∨ Ext K c i (fun O => LV s d f c sl ti 0 K 0 0 CH O K 0) R v k) B') := by
  have c0 := hn.1.1
  have c9 := hn.1.2
  have t0 : (0 : Int32).toNatClampNeg = 0 := rfl
  have l93 : 9 ≤ e_ln 93 := by decide
  have l94 : 9 ≤ e_ln 94 := by decide
  intro m
  induction m with
  | zero =>
    intro i n U R B S I L h0 hm mv hpre hrow hU mb hb hS
    obtain ⟨n', rfl⟩ : ∃ k, n = k + 1 := ⟨n - 1, by omega⟩
    have h0 : i = c := h0
    subst h0
    have lw : LV s d f i sl ti 0 K 0 0 CH R K 0 < 2 ^ 62 := by
      have := LV_lt (k := K) (fi := 0) (fc := 0) (ti := ti) (kd := 0) hn.2.1 hn.2.2.1 c0 c9 hn.2.2.2.2 hpre.1 (show K ≤ 5 by omega) 0
      omega
    have hX : Ext K i i (fun O => LV s d f i sl ti 0 K 0 0 CH O K 0) R (LV s d f i sl ti 0 K 0 0 CH R K 0) (cod K i R) := ⟨R, fun p _ => rfl, hpre, rfl, rfl⟩
    have hset : ∀ v k, (S v k ∨ (v = LV s d f i sl ti 0 K 0 0 CH R K 0 ∧ k = cod K i R)) ↔ (S v k ∨ Ext K i i (fun O => LV s d f i sl ti 0 K 0 0 CH O K 0) R v k) := fun v k => by
      constructor
      · intro z
        rcases z with z | ⟨z1, z2⟩
        · exact Or.inl z
        · rw [z1, z2]
          exact Or.inr hX
      · intro z
        rcases z with z | ⟨T, z1, z2, z3, z4⟩
        · exact Or.inl z
        · refine Or.inr ⟨?_, ?_⟩
          · rw [z3]
            exact congrFun (LV_congr (O := T) (O' := R) (fun x _ => z1 _ (Nat.mod_lt _ c0)) K (Nat.le_refl K)) 0
          · rw [z4]
            exact cod_congr c0 z1
    rw [f_X8_fillsRowN]
    unfold f_X8_fillsRowB
    rw [t0, mv.1]
    refine wp_f (fun n => n rfl) ?_
    refine wp_c3 (M_worth (at0 := 0) mv hn (Or.inr rfl) (by omega) (by decide) (fun p hp => ⟨by rw [Nat.zero_add]; exact hrow p hp, hpre.1 p hp⟩) (by omega)) (fun r J M hJ => ?_)
    obtain ⟨j1, j2, j3, j4⟩ := hJ
    have j1 : r = lN (LV s d f i sl ti 0 K 0 0 CH R K 0) := j1
    have j2 : fr m_S4 I J := j2
    have j3 : frL m_SL L M := j3
    have j4 : M 83 26 = lN (20 ^ K) := j4
    have m30 : M 83 30 = L 83 30 := j3 83 30 (fun z => by rcases z with z | z | z <;> omega)
    have k85 : J 85 0 = nI i := (j2 85 0 (fun z => by rcases z with z | z | z <;> omega)).trans mv.1
    have fJ : fr (m_SF i) I J := fr_mono (fun a x z => Or.inl z) j2
    have gM : frL mL L M := mL_S j3
    have mbJ : m_best K i B J M := by
      cases B with
      | none => exact m30.trans mb
      | some p =>
        obtain ⟨b1, b2, b3, T, b4, b5, b6⟩ := mb
        exact ⟨m30.trans b1, b2, j4, T, b4, b5, fun p hp => (j2 94 p (fun z => by rcases z with z | z | z <;> omega)).trans (b6 p hp)⟩
    rw [j1]
    have take : wp (e_let (e_ul M 83 30 (lN (LV s d f i sl ti 0 K 0 0 CH R K 0))) (fun (L_8 : e_L) => e_b1 (f_X8_lays 94 93 0 0 (J 85 0) J) (fun (I_9 : e_I) => f_X8_fillsRow_57 (f_X8_fillsRowN n') I_9 L_8))) (fun q => fr (m_SF i) I q.1 ∧ frL mL L q.2 ∧ m_best K i (some (LV s d f i sl ti 0 K 0 0 CH R K 0, cod K i R)) q.1 q.2) := by
      refine wp_let ?_
      rw [k85]
      refine wp_c1 (M_lays (a0 := 94) (a2 := 93) (x := 0) (y := 0) (n := i) (by decide) (by omega) (by omega) (by omega) (by omega)) (fun E hE => ?_)
      obtain ⟨x1, x2⟩ := hE
      unfold f_X8_fillsRow_57
      refine wp_some ⟨fr_tr fJ (fr_mono (fun a x z => Or.inr (Or.inr z.1)) x1), frL_tr gM (frL_ul (Or.inl rfl)), (show e_ul M 83 30 (lN (LV s d f i sl ti 0 K 0 0 CH R K 0)) 83 30 = lN (LV s d f i sl ti 0 K 0 0 CH R K 0) from ul_s), lw, (show e_ul M 83 30 (lN (LV s d f i sl ti 0 K 0 0 CH R K 0)) 83 26 = M 83 26 from ul_i (by decide)).trans j4, R, hpre, rfl, fun p hp => ?_⟩
      have z := x2 p hp
      rw [Nat.zero_add] at z
      show E 94 p = nI (R p)
      rw [z, j2 93 p (fun z => by rcases z with z | z | z <;> omega)]
      exact hrow p hp
    have done : ∀ B', wp (some (J, M)) (fun q => m_best K i B' q.1 q.2 ∧ True) → True := fun _ _ => trivial
    cases B with
    | none =>
      have h30 : M 83 30 = -1 := mbJ
      rw [h30]
      refine wp_f (fun n => ?_) (wp_mono take (fun q hq => ⟨hq.1, hq.2.1, _, hq.2.2, isB_congr hset (isB_add hb)⟩))
      have le := (lg_cmp_le _ _).mp n
      exact absurd (lN_m1 (x := LV s d f i sl ti 0 K 0 0 CH R K 0) (by omega)) (Int64.not_lt.mpr le)
    | some p =>
      obtain ⟨v0, k0⟩ := p
      have kk : k0 < cod K i R := hS v0 k0 _ _ hb.1 hX
      have le : lg_cmp (lN (LV s d f i sl ti 0 K 0 0 CH R K 0)) (lN v0) ≤ 0 ↔ LV s d f i sl ti 0 K 0 0 CH R K 0 ≤ v0 := lN_cmp (by omega) (by have := mbJ.2.1; omega)
      have add := isB_congr hset (isB_add (v := LV s d f i sl ti 0 K 0 0 CH R K 0) (k := cod K i R) hb)
      have eb : bB (some (v0, k0)) (LV s d f i sl ti 0 K 0 0 CH R K 0) (cod K i R) = if v0 < LV s d f i sl ti 0 K 0 0 CH R K 0 then (LV s d f i sl ti 0 K 0 0 CH R K 0, cod K i R) else if LV s d f i sl ti 0 K 0 0 CH R K 0 = v0 ∧ cod K i R < k0 then (LV s d f i sl ti 0 K 0 0 CH R K 0, cod K i R) else (v0, k0) := rfl
      rw [eb] at add
      rw [mbJ.1]
      refine wp_c (fun z => ?_) (fun z => ?_)
      · have z := le.mp z
        rw [if_neg (by omega), if_neg (by omega)] at add
        unfold f_X8_fillsRow_57
        exact wp_some ⟨fJ, gM, _, mbJ, add⟩
      · have z : v0 < LV s d f i sl ti 0 K 0 0 CH R K 0 := by
          rcases Nat.lt_or_ge v0 (LV s d f i sl ti 0 K 0 0 CH R K 0) with w | w
          · exact w
          · exact absurd (le.mpr w) z
        rw [if_pos z] at add
        exact wp_mono take (fun q hq => ⟨hq.1, hq.2.1, _, hq.2.2, add⟩)
  | succ m ih =>
    intro i n U R B S I L h0 hm mv hpre hrow hU mb hb hS
    obtain ⟨n', rfl⟩ : ∃ k, n = k + 1 := ⟨n - 1, by omega⟩
    have hi : i < c := by omega
    rw [f_X8_fillsRowN]
    unfold f_X8_fillsRowB
    rw [t0, mv.1]
    refine wp_t (nI_n (by omega) (by omega) (by omega)) ?_
    refine M_f64 (R := R) (S := S) c9 h1 hK hi hU hS (fun x B S I L hx nu hfull mv' hrow' h93 mb' hb' hS' => ?_) c 0 e_FU B I L (by omega) (wp_FU (by omega)) mv hrow (fun _ y hy => by omega) mb (isB_congr (fun v k => ⟨Or.inl, fun z => ?_⟩) hb)
    · refine ih (i + 1) n' _ (upR R i x) B S I L (by omega) (by omega) mv' ?_ (fun p hp => ?_) (fun y hy => ?_) mb' hb' hS'
      · refine ⟨fun p hp => ?_, fun p q hp hq w => ?_, fun p hk hp y hy => ?_⟩
        · by_cases z : p = i
          · rw [z, upR_s]
            exact hx
          · rw [upR_o z]
            exact hpre.1 p (by omega)
        · by_cases z : p = i
          · by_cases z2 : q = i
            · omega
            · rw [z, upR_s, upR_o z2] at w
              exact absurd w.symm (nu q (by omega))
          · by_cases z2 : q = i
            · rw [z2, upR_s, upR_o z] at w
              exact absurd w (nu p (by omega))
            · rw [upR_o z, upR_o z2] at w
              exact hpre.2.1 p q (by omega) (by omega) w
        · by_cases z : p = i
          · rw [z, upR_s] at hy
            obtain ⟨q, hq, eq⟩ := hfull (by omega) y hy
            exact ⟨q, by omega, by rw [upR_o (by omega)]; exact eq⟩
          · rw [upR_o z] at hy
            obtain ⟨q, hq, eq⟩ := hpre.2.2 p hk (by omega) y hy
            exact ⟨q, hq, by rw [upR_o (by omega)]; exact eq⟩
      · by_cases z : p = i
        · rw [z, upR_s]
          exact h93
        · rw [upR_o z]
          exact hrow' p (by omega)
      · rw [bt_or hy (by omega), hU y hy]
        constructor
        · intro z
          rcases z with ⟨p, hp, ep⟩ | z
          · exact ⟨p, by omega, by rw [upR_o (by omega)]; exact ep⟩
          · exact ⟨i, by omega, by rw [upR_s, z]⟩
        · intro ⟨p, hp, ep⟩
          by_cases z : p = i
          · rw [z, upR_s] at ep
            exact Or.inr ep.symm
          · rw [upR_o z] at ep
            exact Or.inl ⟨p, by omega, ep⟩
    · rcases z with z | ⟨T, _, z, _⟩
      · exact z
      · omega
