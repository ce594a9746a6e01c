-- AN EVENT happens in the model
theorem eight {A : e_I} {a P : Nat} {v0 v1 v2 v3 v4 v5 v6 v7 : Int32} : ∀ B, B = e_ui (e_ui (e_ui (e_ui (e_ui (e_ui (e_ui (e_ui A a P v0) a (P + 1) v1) a (P + 2) v2) a (P + 3) v3) a (P + 4) v4) a (P + 5) v5) a (P + 6) v6) a (P + 7) v7 → (B a P = v0 ∧ B a (P + 1) = v1 ∧ B a (P + 2) = v2 ∧ B a (P + 3) = v3 ∧ B a (P + 4) = v4 ∧ B a (P + 5) = v5 ∧ B a (P + 6) = v6 ∧ B a (P + 7) = v7) ∧ (∀ i, ¬ (P ≤ i ∧ i < P + 8) → B a i = A a i) ∧ (∀ b i, b ≠ a → B b i = A b i) := by
  intro B hB
  obtain ⟨⟨s0, s1, s2, s3, s4, s5⟩, sO, sB⟩ := six _ rfl (A := A) (a := a) (P := P) (v0 := v0) (v1 := v1) (v2 := v2) (v3 := v3) (v4 := v4) (v5 := v5)
  revert hB s0 s1 s2 s3 s4 s5 sO sB
  generalize e_ui (e_ui (e_ui (e_ui (e_ui (e_ui A a P v0) a (P + 1) v1) a (P + 2) v2) a (P + 3) v3) a (P + 4) v4) a (P + 5) v5 = D
  intro hB s0 s1 s2 s3 s4 s5 sO sB
  subst hB
  have lo : ∀ i, i < P + 6 → e_ui (e_ui D a (P + 6) v6) a (P + 7) v7 a i = D a i := fun i hi => by
    rw [ui_i (show i ≠ P + 7 by omega), ui_i (show i ≠ P + 6 by omega)]
  refine ⟨⟨?_, ?_, ?_, ?_, ?_, ?_, ?_, ui_s⟩, fun i hi => ?_, fun b i hb => ?_⟩
  · rw [lo _ (by omega), s0]
  · rw [lo _ (by omega), s1]
  · rw [lo _ (by omega), s2]
  · rw [lo _ (by omega), s3]
  · rw [lo _ (by omega), s4]
  · rw [lo _ (by omega), s5]
  · rw [ui_i (show P + 6 ≠ P + 7 by omega), ui_s]
  · rw [ui_i (show i ≠ P + 7 by omega), ui_i (show i ≠ P + 6 by omega), sO i (by omega)]
  · rw [ui_a hb, ui_a hb, sB b i hb]
def lrow (J K : e_I) (e q : Nat) : Prop := K 85 q = J 85 72 ∧ K 85 (q + 1) = nI e ∧ K 85 (q + 2) = J 83 21 ∧ K 85 (q + 3) = J 85 69 ∧ K 85 (q + 4) = J 85 70 ∧ K 85 (q + 5) = J 85 71 ∧ K 85 (q + 6) = J 83 19 ∧ K 85 (q + 7) = J 83 20
theorem M_logs56 {J : e_I} {m e : Nat} (h : J 85 75 = nI m) (hm : m ≤ 39) : wp (f_X8_logs_56 (nI e) J) (fun K => fr (fun a i => a = 85 ∧ (i = 75 ∨ (76 + 8 * m ≤ i ∧ i < 76 + 8 * m + 8))) J K ∧ K 85 75 = nI (m + 1) ∧ lrow J K e (76 + 8 * m)) := by
  have t75 : (75 : Int32).toNatClampNeg = 75 := rfl
  have t72 : (72 : Int32).toNatClampNeg = 72 := rfl
  have t69 : (69 : Int32).toNatClampNeg = 69 := rfl
  have t70 : (70 : Int32).toNatClampNeg = 70 := rfl
  have t71 : (71 : Int32).toNatClampNeg = 71 := rfl
  unfold f_X8_logs_56
  rw [t75, t72, t69, t70, t71, h]
  have x0 : (76 : Int32) + (8 : Int32) * nI m = nI (76 + 8 * m) := by rw [n8, nI_mul, n76, nI_add]
  rw [x0]
  refine wp_let ?_
  have p1 : nI (76 + 8 * m) + 1 = nI (76 + 8 * m + 1) := nI_1 _
  have p2 : nI (76 + 8 * m) + 2 = nI (76 + 8 * m + 2) := by rw [n2, nI_add]
  have p3 : nI (76 + 8 * m) + 3 = nI (76 + 8 * m + 3) := by rw [n3, nI_add]
  have p4 : nI (76 + 8 * m) + 4 = nI (76 + 8 * m + 4) := by rw [n4, nI_add]
  have p5 : nI (76 + 8 * m) + 5 = nI (76 + 8 * m + 5) := by rw [n5, nI_add]
  have p6 : nI (76 + 8 * m) + 6 = nI (76 + 8 * m + 6) := by rw [n6, nI_add]
  have p7 : nI (76 + 8 * m) + 7 = nI (76 + 8 * m + 7) := by rw [n7, nI_add]
  rw [p1, p2, p3, p4, p5, p6, p7]
  refine wp_as (nI_ix (by omega) (by omega)) (wp_let (wp_as (nI_ix (by omega) (by omega)) (wp_let (wp_as (nI_ix (by omega) (by omega)) (wp_let (wp_as (nI_ix (by omega) (by omega)) (wp_let (wp_as (nI_ix (by omega) (by omega)) (wp_let (wp_as (nI_ix (by omega) (by omega)) (wp_let (wp_as (nI_ix (by omega) (by omega)) (wp_let (wp_as (nI_ix (by omega) (by omega)) (wp_let (wp_let (wp_some ?_)))))))))))))))))
  rw [nI_clamp (n := 76 + 8 * m) (by omega), nI_clamp (n := 76 + 8 * m + 1) (by omega), nI_clamp (n := 76 + 8 * m + 2) (by omega), nI_clamp (n := 76 + 8 * m + 3) (by omega), nI_clamp (n := 76 + 8 * m + 4) (by omega), nI_clamp (n := 76 + 8 * m + 5) (by omega), nI_clamp (n := 76 + 8 * m + 6) (by omega), nI_clamp (n := 76 + 8 * m + 7) (by omega)]
  -- what is read on the way lies elsewhere
  generalize hA1 : e_ui J 85 (76 + 8 * m) (J 85 72) = A1
  generalize hA2 : e_ui A1 85 (76 + 8 * m + 1) (nI e) = A2
  have r21 : A2 83 21 = J 83 21 := by rw [← hA2, ← hA1, ui_a (show (83 : Nat) ≠ 85 by decide), ui_a (show (83 : Nat) ≠ 85 by decide)]
  rw [r21]
  generalize hA3 : e_ui A2 85 (76 + 8 * m + 2) (J 83 21) = A3
  have r69 : A3 85 69 = J 85 69 := by rw [← hA3, ← hA2, ← hA1, ui_i (by omega), ui_i (by omega), ui_i (by omega)]
  rw [r69]
  generalize hA4 : e_ui A3 85 (76 + 8 * m + 3) (J 85 69) = A4
  have r70 : A4 85 70 = J 85 70 := by rw [← hA4, ← hA3, ← hA2, ← hA1, ui_i (by omega), ui_i (by omega), ui_i (by omega), ui_i (by omega)]
  rw [r70]
  generalize hA5 : e_ui A4 85 (76 + 8 * m + 4) (J 85 70) = A5
  have r71 : A5 85 71 = J 85 71 := by rw [← hA5, ← hA4, ← hA3, ← hA2, ← hA1, ui_i (by omega), ui_i (by omega), ui_i (by omega), ui_i (by omega), ui_i (by omega)]
  rw [r71]
  generalize hA6 : e_ui A5 85 (76 + 8 * m + 5) (J 85 71) = A6
  have o83 : ∀ i, A6 83 i = J 83 i := fun i => by rw [← hA6, ← hA5, ← hA4, ← hA3, ← hA2, ← hA1, ui_a (show (83 : Nat) ≠ 85 by decide), ui_a (show (83 : Nat) ≠ 85 by decide), ui_a (show (83 : Nat) ≠ 85 by decide), ui_a (show (83 : Nat) ≠ 85 by decide), ui_a (show (83 : Nat) ≠ 85 by decide), ui_a (show (83 : Nat) ≠ 85 by decide)]
  rw [o83 19]
  generalize hA7 : e_ui A6 85 (76 + 8 * m + 6) (J 83 19) = A7
  have r20 : A7 83 20 = J 83 20 := by rw [← hA7, ui_a (show (83 : Nat) ≠ 85 by decide)]; exact o83 20
  rw [r20]
  obtain ⟨⟨s0, s1, s2, s3, s4, s5, s6, s7⟩, sO, sB⟩ := eight _ rfl (A := J) (a := 85) (P := 76 + 8 * m) (v0 := J 85 72) (v1 := nI e) (v2 := J 83 21) (v3 := J 85 69) (v4 := J 85 70) (v5 := J 85 71) (v6 := J 83 19) (v7 := J 83 20)
  rw [hA1, hA2, hA3, hA4, hA5, hA6, hA7] at s0 s1 s2 s3 s4 s5 s6 s7 sO sB
  revert s0 s1 s2 s3 s4 s5 s6 s7 sO sB
  generalize e_ui A7 85 (76 + 8 * m + 7) (J 83 20) = D
  intro s0 s1 s2 s3 s4 s5 s6 s7 sO sB
  have d75 : D 85 75 = nI m := (sO 75 (by omega)).trans h
  rw [d75, nI_1 m]
  have up : ∀ i, i ≠ 75 → e_ui D 85 75 (nI (m + 1)) 85 i = D 85 i := fun i hi => ui_i hi
  refine ⟨fun a i z => ?_, ui_s, (up _ (by omega)).trans s0, (up _ (by omega)).trans s1, (up _ (by omega)).trans s2, (up _ (by omega)).trans s3, (up _ (by omega)).trans s4, (up _ (by omega)).trans s5, (up _ (by omega)).trans s6, (up _ (by omega)).trans s7⟩
  by_cases y : a = 85
  · subst y
    rw [up i (fun q => z ⟨rfl, Or.inl q⟩), sO i (fun q => z ⟨rfl, Or.inr q⟩)]
  · rw [ui_a y, sB a i y]
def lgF (a i : Nat) : Prop := a = 85 ∧ 75 ≤ i ∧ i < 396
theorem M_logs {J : e_I} {n e : Nat} (h : J 85 75 = nI n) (hn : n ≤ 40) : wp (f_X8_logs (nI e) J) (fun K => fr lgF J K ∧ K 85 75 = nI (min (n + 1) 40) ∧ lrow J K e (76 + 8 * min n 39) ∧ ∀ r, r < min n 39 → ∀ k, k < 8 → K 85 (76 + 8 * r + k) = J 85 (76 + 8 * (r + (if n = 40 then 1 else 0)) + k)) := by
  have e75 : J 85 (75 : Int32).toNatClampNeg = nI n := h
  unfold f_X8_logs
  rw [e75]
  by_cases q : n = 40
  · subst q
    refine wp_f (fun n => n rfl) ?_
    refine wp_loop (F := fun m k K => f_X8_logs_14 (nI e) (fun (I_2 : e_I) => e_let (e_ui I_2 85 (75 : Int32).toNatClampNeg ((I_2 85 (75 : Int32).toNatClampNeg) - 1)) (fun (I_3 : e_I) => f_X8_logs_56 (nI e) I_3)) m (nI k) K) 312 (fun k K => (∀ a i, ¬ (a = 85 ∧ 76 ≤ i ∧ i < 396) → K a i = J a i) ∧ (∀ i, i < k → K 85 (76 + i) = J 85 (84 + i)) ∧ (∀ i, k ≤ i → K 85 (76 + i) = J 85 (76 + i))) ?_ ?_ e_FU 0 J (by omega) (wp_FU (by decide)) ⟨fun _ _ _ => rfl, fun _ h => by omega, fun _ _ => rfl⟩
    · intro m K hP
      obtain ⟨p1, p2, p3⟩ := hP
      show wp (f_X8_logs_14 _ _ (m + 1) (nI 312) K) _
      rw [f_X8_logs_14]
      refine wp_t (by decide) (wp_let ?_)
      have t75 : (75 : Int32).toNatClampNeg = 75 := rfl
      have k75 : K 85 75 = nI 40 := (p1 85 75 (by omega)).trans h
      have e39 : nI 40 - 1 = nI 39 := nI_sub (b := 1) (by decide)
      rw [t75, k75, e39]
      have u75 : ∀ a i, ¬ (a = 85 ∧ i = 75) → e_ui K 85 75 (nI 39) a i = K a i := fun a i z => by
        by_cases y : a = 85
        · subst y
          rw [ui_i (fun q => z ⟨rfl, q⟩)]
        · rw [ui_a y]
      refine wp_mono (M_logs56 (m := 39) (ui_s (I := K) (a := 85) (i := 75) (x := nI 39)) (by decide)) (fun N hN => ?_)
      obtain ⟨k1, k2, k3⟩ := hN
      refine ⟨fun a i z => ?_, k2, ?_, fun r hr k hk => ?_⟩
      · unfold lgF at z
        rw [k1 a i (by omega), u75 a i (by omega), p1 a i (by omega)]
      · unfold lrow at k3 ⊢
        rw [u75 85 72 (by omega), u75 83 21 (by omega), u75 85 69 (by omega), u75 85 70 (by omega), u75 85 71 (by omega), u75 83 19 (by omega), u75 83 20 (by omega), p1 85 72 (by omega), p1 83 21 (by omega), p1 85 69 (by omega), p1 85 70 (by omega), p1 85 71 (by omega), p1 83 19 (by omega), p1 83 20 (by omega)] at k3
        exact k3
      · have hr : r < 39 := hr
        show N 85 (76 + 8 * r + k) = J 85 (76 + 8 * (r + 1) + k)
        rw [k1 85 _ (by omega), u75 85 _ (by omega), show 76 + 8 * r + k = 76 + (8 * r + k) by omega, p2 _ (by omega)]
        congr 1
        omega
    · intro m k K hk hP ih
      obtain ⟨p1, p2, p3⟩ := hP
      show wp (f_X8_logs_14 _ _ (m + 1) (nI k) K) _
      rw [f_X8_logs_14, n84, n76, nI_add, nI_add]
      refine wp_f (c_ge (N := 312) hk (by decide)) (wp_as (nI_ix (by omega) (by omega)) (wp_as (nI_ix (by omega) (by omega)) (wp_let (wp_let ?_))))
      rw [nI_1 k, nI_clamp (n := 84 + k) (by omega), nI_clamp (n := 76 + k) (by omega)]
      have rd : K 85 (84 + k) = J 85 (84 + k) := by
        have := p3 (8 + k) (by omega)
        rwa [show 76 + (8 + k) = 84 + k by omega] at this
      rw [rd]
      refine ih (e_ui K 85 (76 + k) (J 85 (84 + k))) ⟨fun a i z => ?_, fun i hi => ?_, fun i hi => ?_⟩
      · by_cases y : a = 85
        · subst y
          rw [ui_i (show i ≠ 76 + k by omega), p1 85 i z]
        · rw [ui_a y, p1 a i z]
      · by_cases y : i = k
        · subst y
          rw [ui_s]
        · rw [ui_i (show 76 + i ≠ 76 + k by omega)]
          exact p2 i (by omega)
      · rw [ui_i (show 76 + i ≠ 76 + k by omega)]
        exact p3 i (by omega)
  · refine wp_t (nI_n (b := 40) q (by omega) (by decide)) ?_
    refine wp_mono (M_logs56 h (by omega)) (fun N hN => ?_)
    obtain ⟨k1, k2, k3⟩ := hN
    have m1 : min (n + 1) 40 = n + 1 := Nat.min_eq_left (by omega)
    have m2 : min n 39 = n := Nat.min_eq_left (by omega)
    rw [m1, m2]
    refine ⟨fun a i z => ?_, k2, k3, fun r hr k hk => ?_⟩
    · unfold lgF at z
      exact k1 a i (by omega)
    · rw [if_neg q, Nat.add_zero]
      exact k1 85 _ (by omega)
def hpF (a i : Nat) : Prop := (a = 85 ∧ 69 ≤ i ∧ i < 396) ∨ (a = 83 ∧ 19 ≤ i ∧ i ≤ 21)
def mrow (J K : e_I) (s d f e st b q : Nat) : Prop := K 85 q = nI b ∧ K 85 (q + 1) = nI e ∧ K 85 (q + 2) = nI (mR s d f e st) ∧ K 85 (q + 3) = J 85 69 ∧ K 85 (q + 4) = nI (st % 8) ∧ K 85 (q + 5) = nI (st / 8) ∧ K 85 (q + 6) = nI (mA s d f e st) ∧ K 85 (q + 7) = nI (mO e st)
theorem hS_m {s d f e st : Nat} (h : RV s d f) (he : e < 9) (hs : st < 24) : hS s d f e st % 8 = mA s d f e st ∧ hS s d f e st / 8 = mO e st % 3 ∧ hS s d f e st < 24 ∧ (mB s d f e st = 24 ↔ mO e st = 3) := by
  obtain ⟨x1, x2, x3, x4, x5, x6⟩ := m_f1 h he hs
  have hB24 : mB s d f e st = 24 ↔ mO e st = 3 := by
    unfold mB
    by_cases q : mO e st = 3
    · rw [if_pos q]
      exact ⟨fun _ => q, fun _ => rfl⟩
    · rw [if_neg q]
      exact ⟨fun z => by omega, fun z => absurd z q⟩
  by_cases q : mO e st = 3
  · have eA : mA s d f e st = 0 := by
      unfold mA
      rw [if_pos q]
    have eS : hS s d f e st = 0 := by
      unfold hS
      rw [if_pos (hB24.mpr q)]
    rw [eS, eA, q]
    exact ⟨rfl, rfl, by decide, ⟨fun _ => rfl, fun _ => hB24.mpr q⟩⟩
  · have eS : hS s d f e st = 8 * mO e st + mA s d f e st := by
      unfold hS
      rw [if_neg (fun z => q (hB24.mp z))]
      unfold mB
      rw [if_neg q]
    rw [eS]
    exact ⟨by omega, by omega, by omega, hB24⟩
theorem M_happen {J : e_I} {c s d f sl ti b p fc st n w e : Nat} {CH : Nat → Nat → Nat} {O : Nat → Nat} (hN : GN c s d f sl ti CH O b st n w) (hM : GM J c s d f sl ti CH O b fc st n) (hp : p < c) (ep : O p = b) (hf : ∀ i, i < p → O i ≠ b) (he : e < 9) (hfc : fc < 100000) : wp (f_X8_happens (nI e) J) (fun q => q.1 = nI (mR s d f e st) ∧ fr hpF J q.2 ∧ GM q.2 c s d f sl ti CH O (hB c e b p O) (hF e fc) (hS s d f e st) (min (n + 1) 40) ∧ q.2 85 69 = J 85 69 + hI s d f e st ∧ q.2 85 74 = J 85 74 + nI (mR s d f e st) ∧ mrow J q.2 s d f e st b (76 + 8 * min n 39) ∧ ∀ r, r < min n 39 → ∀ k, k < 8 → q.2 85 (76 + 8 * r + k) = J 85 (76 + 8 * (r + (if n = 40 then 1 else 0)) + k)) := by
  obtain ⟨n1, n2, n3, n4', n5', n6', n7'⟩ := id hN
  obtain ⟨mv, mo, m72, m73, m70, m71, m75⟩ := hM
  obtain ⟨x1, x2, x3, x4, x5, x6⟩ := m_f1 n1.2.1 he n5'
  obtain ⟨z1, z2, z3, z4⟩ := hS_m n1.2.1 he n5'
  have c0 := n1.1.1
  have c9 := n1.1.2
  have t70 : (70 : Int32).toNatClampNeg = 70 := rfl
  have t71 : (71 : Int32).toNatClampNeg = 71 := rfl
  have t72 : (72 : Int32).toNatClampNeg = 72 := rfl
  have t73 : (73 : Int32).toNatClampNeg = 73 := rfl
  have t74 : (74 : Int32).toNatClampNeg = 74 := rfl
  have t69 : (69 : Int32).toNatClampNeg = 69 := rfl
  have t0 : (0 : Int32).toNatClampNeg = 0 := rfl
  unfold f_X8_happens
  rw [t70, t71, t74, t69, m70, m71]
  refine wp_e1 (m_view (e := e) n1.2.1 mv.2.1.1 mv.2.1.2.1 mv.2.1.2.2 he n5') ?_
  have m1 : m_w J (nI (mA s d f e st)) (nI (mO e st)) (nI (mR s d f e st)) 85 75 = nI n := (m_wa (by decide)).trans m75
  refine wp_c1 (M_logs m1 n6') (fun K hK => ?_)
  obtain ⟨k1, k2, k3, k4⟩ := hK
  have kO : ∀ a i, ¬ (a = 85 ∧ 75 ≤ i ∧ i < 396) → ¬ (a = 83 ∧ 19 ≤ i ∧ i ≤ 21) → K a i = J a i := fun a i h1 h2 => by
    rw [k1 a i h1]
    by_cases y : a = 83
    · subst y
      exact m_wi (by omega) (by omega) (by omega)
    · exact m_wa y
  have k21 : K 83 21 = nI (mR s d f e st) := k1 83 21 (fun q => by unfold lgF at q; omega)
  have k19 : K 83 19 = nI (mA s d f e st) := k1 83 19 (fun q => by unfold lgF at q; omega)
  have k20 : K 83 20 = nI (mO e st) := k1 83 20 (fun q => by unfold lgF at q; omega)
  refine wp_let ?_
  rw [k21, kO 85 74 (by omega) (by omega)]
  generalize hA1 : e_ui K 85 74 (J 85 74 + nI (mR s d f e st)) = A1
  have a1O : ∀ a i, ¬ (a = 85 ∧ i = 74) → A1 a i = K a i := fun a i h => by
    rw [← hA1]
    by_cases y : a = 85
    · subst y
      rw [ui_i (fun q => h ⟨rfl, q⟩)]
    · rw [ui_a y]
  have a174 : A1 85 74 = J 85 74 + nI (mR s d f e st) := by rw [← hA1]; exact ui_s
  refine wp_let ?_
  rw [a1O 83 19 (by omega), k19]
  generalize hA2 : e_ui A1 85 70 (nI (mA s d f e st)) = A2
  have a2O : ∀ a i, ¬ (a = 85 ∧ i = 70) → A2 a i = A1 a i := fun a i h => by
    rw [← hA2]
    by_cases y : a = 85
    · subst y
      rw [ui_i (fun q => h ⟨rfl, q⟩)]
    · rw [ui_a y]
  have a270 : A2 85 70 = nI (mA s d f e st) := by rw [← hA2]; exact ui_s
  refine wp_let ?_
  have rm3 : e_rm (nI (mO e st)) 3 = nI (mO e st % 3) := nI_rm (b := 3) (by decide) (by omega) (by decide)
  rw [a2O 83 20 (by omega), a1O 83 20 (by omega), k20, rm3]
  generalize hA3 : e_ui A2 85 71 (nI (mO e st % 3)) = A3
  have a3O : ∀ a i, ¬ (a = 85 ∧ i = 71) → A3 a i = A2 a i := fun a i h => by
    rw [← hA3]
    by_cases y : a = 85
    · subst y
      rw [ui_i (fun q => h ⟨rfl, q⟩)]
    · rw [ui_a y]
  have a371 : A3 85 71 = nI (mO e st % 3) := by rw [← hA3]; exact ui_s
  have a320 : A3 83 20 = nI (mO e st) := by rw [a3O 83 20 (by omega), a2O 83 20 (by omega), a1O 83 20 (by omega)]; exact k20
  have a369 : A3 85 69 = J 85 69 := by rw [a3O 85 69 (by omega), a2O 85 69 (by omega), a1O 85 69 (by omega), kO 85 69 (by omega) (by omega)]
  rw [a320, a369]
  -- the end
  have fin : ∀ (x : Int32), x = hI s d f e st → wp (f_X8_happens_83 (nI e) x (J 85 69) 69 A3) (fun q => q.1 = nI (mR s d f e st) ∧ fr hpF J q.2 ∧ GM q.2 c s d f sl ti CH O (hB c e b p O) (hF e fc) (hS s d f e st) (min (n + 1) 40) ∧ q.2 85 69 = J 85 69 + hI s d f e st ∧ q.2 85 74 = J 85 74 + nI (mR s d f e st) ∧ mrow J q.2 s d f e st b (76 + 8 * min n 39) ∧ ∀ r, r < min n 39 → ∀ k, k < 8 → q.2 85 (76 + 8 * r + k) = J 85 (76 + 8 * (r + (if n = 40 then 1 else 0)) + k)) := fun x hx => by
    unfold f_X8_happens_83
    refine wp_as (by decide) (wp_let ?_)
    rw [t69]
    generalize hA4 : e_ui A3 85 69 (J 85 69 + x) = A4
    have a4O : ∀ a i, ¬ (a = 85 ∧ i = 69) → A4 a i = A3 a i := fun a i h => by
      rw [← hA4]
      by_cases y : a = 85
      · subst y
        rw [ui_i (fun q => h ⟨rfl, q⟩)]
      · rw [ui_a y]
    have a469 : A4 85 69 = J 85 69 + hI s d f e st := by rw [← hA4, hx]; exact ui_s
    have a4K : ∀ a i, ¬ (a = 85 ∧ (i = 69 ∨ i = 70 ∨ i = 71 ∨ i = 74)) → A4 a i = K a i := fun a i h => by
      rw [a4O a i (by omega), a3O a i (by omega), a2O a i (by omega), a1O a i (by omega)]
    have a421 : A4 83 21 = nI (mR s d f e st) := by rw [a4K 83 21 (by omega)]; exact k21
    have last : ∀ (D : e_I) (b' fc' : Nat), b' = hB c e b p O → fc' = hF e fc → (∀ a i, ¬ (a = 85 ∧ (i = 72 ∨ i = 73)) → D a i = A4 a i) → D 85 72 = nI b' → D 85 73 = nI fc' → wp (f_X8_happens_137 D) (fun q => q.1 = nI (mR s d f e st) ∧ fr hpF J q.2 ∧ GM q.2 c s d f sl ti CH O (hB c e b p O) (hF e fc) (hS s d f e st) (min (n + 1) 40) ∧ q.2 85 69 = J 85 69 + hI s d f e st ∧ q.2 85 74 = J 85 74 + nI (mR s d f e st) ∧ mrow J q.2 s d f e st b (76 + 8 * min n 39) ∧ ∀ r, r < min n 39 → ∀ k, k < 8 → q.2 85 (76 + 8 * r + k) = J 85 (76 + 8 * (r + (if n = 40 then 1 else 0)) + k)) := fun D b' fc' e1 e2 dO d72 d73 => by
      unfold f_X8_happens_137
      have dK : ∀ i, ¬ (69 ≤ i ∧ i ≤ 74) → D 85 i = K 85 i := fun i hi => by rw [dO 85 i (by omega), a4K 85 i (by omega)]
      have dJ : ∀ i, i < 69 → D 85 i = J 85 i := fun i hi => by rw [dK i (by omega), kO 85 i (by omega) (by omega)]
      refine wp_some ⟨?_, fun a i z => ?_, ⟨⟨?_, ⟨?_, ?_, ?_⟩, ?_, ?_, fun x1 hx1 x2 hx2 => ?_⟩, fun i hi => ?_, ?_, ?_, ?_, ?_, ?_⟩, ?_, ?_, ?_, fun r hr k hk => ?_⟩
      · show D 83 21 = _
        rw [dO 83 21 (by omega), a421]
      · show D a i = J a i
        unfold hpF at z
        rw [dO a i (by omega), a4K a i (by omega), kO a i (by omega) (by omega)]
      · exact (dJ 0 (by decide)).trans mv.1
      · exact (dJ 1 (by decide)).trans mv.2.1.1
      · exact (dJ 2 (by decide)).trans mv.2.1.2.1
      · exact (dJ 3 (by decide)).trans mv.2.1.2.2
      · exact (dJ 4 (by decide)).trans mv.2.2.1
      · exact (dJ 5 (by decide)).trans mv.2.2.2.1
      · exact (dJ _ (by omega)).trans (mv.2.2.2.2 x1 hx1 x2 hx2)
      · exact (dJ _ (by omega)).trans (mo i hi)
      · exact d72.trans (by rw [e1])
      · exact d73.trans (by rw [e2])
      · show D 85 70 = _
        rw [dO 85 70 (by omega), a4O 85 70 (by omega), a3O 85 70 (by omega), a270, z1]
      · show D 85 71 = _
        rw [dO 85 71 (by omega), a4O 85 71 (by omega), a371, z2]
      · exact (dK 75 (by omega)).trans k2
      · show D 85 69 = _
        rw [dO 85 69 (by omega), a469]
      · show D 85 74 = _
        rw [dO 85 74 (by omega), a4O 85 74 (by omega), a3O 85 74 (by omega), a2O 85 74 (by omega), a174]
      · obtain ⟨l0, l1, l2, l3, l4, l5, l6, l7⟩ := k3
        have w85 : ∀ i, m_w J (nI (mA s d f e st)) (nI (mO e st)) (nI (mR s d f e st)) 85 i = J 85 i := fun i => m_wa (by decide)
        rw [w85] at l0 l3 l4 l5
        rw [m_w21] at l2
        rw [m_w19] at l6
        rw [m_w20] at l7
        refine ⟨(dK _ (by omega)).trans (l0.trans m72), (dK _ (by omega)).trans l1, (dK _ (by omega)).trans l2, (dK _ (by omega)).trans l3, (dK _ (by omega)).trans (l4.trans m70), (dK _ (by omega)).trans (l5.trans m71), (dK _ (by omega)).trans l6, (dK _ (by omega)).trans l7⟩
      · show D 85 _ = _
        rw [dK _ (by omega), k4 r hr k hk]
        exact m_wa (by decide)
    have a472 : A4 85 72 = nI b := by rw [a4K 85 72 (by omega), kO 85 72 (by omega) (by omega)]; exact m72
    have a473 : A4 85 73 = nI fc := by rw [a4K 85 73 (by omega), kO 85 73 (by omega) (by omega)]; exact m73
    by_cases q : e ≤ 6
    · refine wp_f (nI_nlt (b := e) (a := 6) q (by decide)) ?_
      have aJ : ∀ i, i < 69 → A4 85 i = J 85 i := fun i hi => by rw [a4K 85 i (by omega), kO 85 i (by omega) (by omega)]
      rw [t72, t73, t0, a472, aJ 0 (by decide), mv.1]
      have hmod : (p + 1) % c < c := Nat.mod_lt _ c0
      refine wp_e1 (M_placeOf (O := O) (c := c) (fun i hi => by rw [aJ _ (by omega)]; exact ⟨mo i hi, n2 i hi⟩) c9 hp ep (by omega) hf) ?_
      rw [nI_1 p, nI_rm c0 (by omega) (by omega), n60, nI_add]
      refine wp_as (nI_ne0 c0 (by omega)) (wp_as (nI_ix (by omega) (by omega)) (wp_let (wp_let ?_)))
      rw [nI_clamp (n := 60 + (p + 1) % c) (by omega), aJ _ (by omega), mo _ hmod, ui_i (show (73 : Nat) ≠ 72 by decide), a473, nI_1 fc]
      refine last _ (O ((p + 1) % c)) (fc + 1) ?_ ?_ (fun a i h => ?_) ?_ ui_s
      · unfold hB
        rw [if_pos q]
      · unfold hF
        rw [if_pos q]
      · by_cases y : a = 85
        · subst y
          rw [ui_i (show i ≠ 73 by omega), ui_i (show i ≠ 72 by omega)]
        · rw [ui_a y, ui_a y]
      · rw [ui_i (show (72 : Nat) ≠ 73 by decide), ui_s]
    · refine wp_t (nI_lt (a := 6) (by omega) (by omega)) ?_
      refine last A4 b fc ?_ ?_ (fun a i _ => rfl) a472 a473
      · unfold hB
        rw [if_neg q]
      · unfold hF
        rw [if_neg q]
  by_cases q : mO e st = 3
  · have i1 : hI s d f e st = 1 := if_pos (z4.mpr q)
    exact wp_f (fun n => n (by rw [q]; rfl)) (fin 1 i1.symm)
  · have i0 : hI s d f e st = 0 := if_neg (fun z => q (z4.mp z))
    exact wp_t (nI_n (b := 3) q (by omega) (by decide)) (fin 0 i0.symm)
