-- AN EVENT happens, on both sides
theorem six {A : e_I} {a P : Nat} {v0 v1 v2 v3 v4 v5 : Int32} : ∀ B, B = e_ui (e_ui (e_ui (e_ui (e_ui (e_ui A a P v0) a (P + 1) v1) a (P + 2) v2) a (P + 3) v3) a (P + 4) v4) a (P + 5) v5 → (B a P = v0 ∧ B a (P + 1) = v1 ∧ B a (P + 2) = v2 ∧ B a (P + 3) = v3 ∧ B a (P + 4) = v4 ∧ B a (P + 5) = v5) ∧ (∀ i, ¬ (P ≤ i ∧ i < P + 6) → B a i = A a i) ∧ (∀ b i, b ≠ a → B b i = A b i) := by
  intro B hB
  subst hB
  refine ⟨⟨?_, ?_, ?_, ?_, ?_, ?_⟩, fun i hi => ?_, fun b i hb => ?_⟩
  · rw [ui_i (show P ≠ P + 5 by omega), ui_i (show P ≠ P + 4 by omega), ui_i (show P ≠ P + 3 by omega), ui_i (show P ≠ P + 2 by omega), ui_i (show P ≠ P + 1 by omega), ui_s]
  · rw [ui_i (show P + 1 ≠ P + 5 by omega), ui_i (show P + 1 ≠ P + 4 by omega), ui_i (show P + 1 ≠ P + 3 by omega), ui_i (show P + 1 ≠ P + 2 by omega), ui_s]
  · rw [ui_i (show P + 2 ≠ P + 5 by omega), ui_i (show P + 2 ≠ P + 4 by omega), ui_i (show P + 2 ≠ P + 3 by omega), ui_s]
  · rw [ui_i (show P + 3 ≠ P + 5 by omega), ui_i (show P + 3 ≠ P + 4 by omega), ui_s]
  · rw [ui_i (show P + 4 ≠ P + 5 by omega), ui_s]
  · rw [ui_s]
  · rw [ui_i (show i ≠ P + 5 by omega), ui_i (show i ≠ P + 4 by omega), ui_i (show i ≠ P + 3 by omega), ui_i (show i ≠ P + 2 by omega), ui_i (show i ≠ P + 1 by omega), ui_i (show i ≠ P by omega)]
  · rw [ui_a hb, ui_a hb, ui_a hb, ui_a hb, ui_a hb, ui_a hb]
-- the class notes a row
def ntF (g a i : Nat) : Prop := (a = g ∧ (i = 6 ∨ i = 7)) ∨ a = g + 4
theorem C_note {I : e_I} {g n w : Nat} {v1 v2 v3 : Int32} (h6 : I g 6 = nI n) (h7 : I g 7 = nI w) (hn : n ≤ 40) (hw : w ≤ 39) : wp (f_X0_note g v1 v2 v3 I) (fun J => fr (ntF g) I J ∧ J g 6 = nI (min (n + 1) 40) ∧ J g 7 = nI ((w + 1) % 40) ∧ (J (g + 4) ((w + 1) % 40 * 6) = I g 4 ∧ J (g + 4) ((w + 1) % 40 * 6 + 1) = v1 ∧ J (g + 4) ((w + 1) % 40 * 6 + 2) = v2 ∧ J (g + 4) ((w + 1) % 40 * 6 + 3) = I g 1 ∧ J (g + 4) ((w + 1) % 40 * 6 + 4) = I g 2 ∧ J (g + 4) ((w + 1) % 40 * 6 + 5) = v3) ∧ ∀ i, ¬ ((w + 1) % 40 * 6 ≤ i ∧ i < (w + 1) % 40 * 6 + 6) → J (g + 4) i = I (g + 4) i) := by
  have wl : (w + 1) % 40 < 40 := Nat.mod_lt _ (by decide)
  have body : wp (f_X0_note_22 g v1 v2 v3 (nI ((w + 1) % 40)) I) (fun J => fr (ntF g) I J ∧ J g 6 = nI (min (n + 1) 40) ∧ J g 7 = nI ((w + 1) % 40) ∧ (J (g + 4) ((w + 1) % 40 * 6) = I g 4 ∧ J (g + 4) ((w + 1) % 40 * 6 + 1) = v1 ∧ J (g + 4) ((w + 1) % 40 * 6 + 2) = v2 ∧ J (g + 4) ((w + 1) % 40 * 6 + 3) = I g 1 ∧ J (g + 4) ((w + 1) % 40 * 6 + 4) = I g 2 ∧ J (g + 4) ((w + 1) % 40 * 6 + 5) = v3) ∧ ∀ i, ¬ ((w + 1) % 40 * 6 ≤ i ∧ i < (w + 1) % 40 * 6 + 6) → J (g + 4) i = I (g + 4) i) := by
    generalize hW : (w + 1) % 40 = W at *
    unfold f_X0_note_22
    refine wp_let (wp_let ?_)
    have e6 : e_ui I g 7 (nI W) g 6 = nI n := (ui_i (show (6 : Nat) ≠ 7 by decide)).trans h6
    have m40 : e_min (nI n + 1) 40 = nI (min (n + 1) 40) := by rw [nI_1 n, n40, nI_min (by omega) (by decide)]
    rw [e6, m40]
    generalize hA : e_ui (e_ui I g 7 (nI W)) g 6 (nI (min (n + 1) 40)) = A
    have a6 : A g 6 = nI (min (n + 1) 40) := by rw [← hA]; exact ui_s
    have a7 : A g 7 = nI W := by rw [← hA, ui_i (show (7 : Nat) ≠ 6 by decide)]; exact ui_s
    have aO : ∀ a i, ¬ (a = g ∧ (i = 6 ∨ i = 7)) → A a i = I a i := fun a i z => by
      rw [← hA]
      by_cases y : a = g
      · subst y
        rw [ui_i (show i ≠ 6 from fun q => z ⟨rfl, Or.inl q⟩), ui_i (show i ≠ 7 from fun q => z ⟨rfl, Or.inr q⟩)]
      · rw [ui_a y, ui_a y]
    have x6 : A g 7 * 6 = nI (W * 6) := by rw [a7, n6, nI_mul]
    rw [x6]
    refine wp_let ?_
    have p0 : nI (W * 6) + 0 = nI (W * 6) := by rw [n0, nI_add, Nat.add_zero]
    have p1 : nI (W * 6) + 1 = nI (W * 6 + 1) := nI_1 _
    have p2 : nI (W * 6) + 2 = nI (W * 6 + 2) := by rw [n2, nI_add]
    have p3 : nI (W * 6) + 3 = nI (W * 6 + 3) := by rw [n3, nI_add]
    have p4 : nI (W * 6) + 4 = nI (W * 6 + 4) := by rw [n4, nI_add]
    have p5 : nI (W * 6) + 5 = nI (W * 6 + 5) := by rw [n5, nI_add]
    rw [p0, p1, p2, p3, p4, p5]
    refine wp_as (nI_ix (by omega) (by omega)) (wp_let (wp_as (nI_ix (by omega) (by omega)) (wp_let (wp_as (nI_ix (by omega) (by omega)) (wp_let (wp_as (nI_ix (by omega) (by omega)) (wp_let (wp_as (nI_ix (by omega) (by omega)) (wp_let (wp_as (nI_ix (by omega) (by omega)) (wp_let (wp_some ?_))))))))))))
    rw [nI_clamp (n := W * 6) (by omega), nI_clamp (n := W * 6 + 1) (by omega), nI_clamp (n := W * 6 + 2) (by omega), nI_clamp (n := W * 6 + 3) (by omega), nI_clamp (n := W * 6 + 4) (by omega), nI_clamp (n := W * 6 + 5) (by omega)]
    have gn : g ≠ g + 4 := by omega
    obtain ⟨⟨s0, s1, s2, s3, s4, s5⟩, sO, sB⟩ := six _ rfl (A := A) (a := g + 4) (P := W * 6) (v0 := A g 4) (v1 := v1) (v2 := v2) (v3 := e_ui (e_ui (e_ui A (g + 4) (W * 6) (A g 4)) (g + 4) (W * 6 + 1) v1) (g + 4) (W * 6 + 2) v2 g 1) (v4 := e_ui (e_ui (e_ui (e_ui A (g + 4) (W * 6) (A g 4)) (g + 4) (W * 6 + 1) v1) (g + 4) (W * 6 + 2) v2) (g + 4) (W * 6 + 3) (e_ui (e_ui (e_ui A (g + 4) (W * 6) (A g 4)) (g + 4) (W * 6 + 1) v1) (g + 4) (W * 6 + 2) v2 g 1) g 2) (v5 := v3)
    have r1 : e_ui (e_ui (e_ui A (g + 4) (W * 6) (A g 4)) (g + 4) (W * 6 + 1) v1) (g + 4) (W * 6 + 2) v2 g 1 = I g 1 := by
      rw [ui_a gn, ui_a gn, ui_a gn, aO g 1 (by omega)]
    have r2 : ∀ x, e_ui (e_ui (e_ui (e_ui A (g + 4) (W * 6) (A g 4)) (g + 4) (W * 6 + 1) v1) (g + 4) (W * 6 + 2) v2) (g + 4) (W * 6 + 3) x g 2 = I g 2 := fun x => by
      rw [ui_a gn, ui_a gn, ui_a gn, ui_a gn, aO g 2 (by omega)]
    refine ⟨fun a i z => ?_, ?_, ?_, ⟨?_, s1, s2, s3.trans r1, s4.trans (r2 _), s5⟩, fun i hi => ?_⟩
    · have z1 : a ≠ g + 4 := fun q => z (Or.inr q)
      exact (sB a i z1).trans (aO a i (fun q => z (Or.inl q)))
    · exact (sB g 6 gn).trans a6
    · exact (sB g 7 gn).trans a7
    · exact s0.trans (aO g 4 (by omega))
    · exact (sO i hi).trans (aO _ i (by omega))
  unfold f_X0_note
  rw [h7, nI_1 w]
  by_cases q : w + 1 = 40
  · refine wp_t (by rw [q]; decide) ?_
    have e : (w + 1) % 40 = 0 := by omega
    have e2 : nI ((w + 1) % 40) = 0 := by rw [e]; rfl
    rw [← e2]
    exact body
  · have e : (w + 1) % 40 = w + 1 := Nat.mod_eq_of_lt (by omega)
    rw [e] at body ⊢
    exact wp_f (c_ge (N := 40) (by omega) (by decide)) body
theorem C_behind2 {I : e_I} {g c s d f sl ti b p j : Nat} {CH : Nat → Nat → Nat} {O : Nat → Nat} (hv : CV I g c s d f sl ti CH O) (c0 : 0 < c) (c9 : c ≤ 9) (h4 : I g 4 = nI b) (hb : b < c) (hp : p < c) (ep : O p = b) (hf : ∀ i, i < p → O i ≠ b) (hj : j < 2 ^ 31) : f_X0_batterBehind g (nI j) I = some (nI (O ((p + j % c) % c))) := by
  have hm : j % c < c := Nat.mod_lt _ c0
  unfold f_X0_batterBehind f_X0_batterBehind_30 e_as
  rw [hv.1, if_neg (show ¬ nI c ≤ 0 from nI_nle c0 (by omega)), h4, C_placeOf hv c9 hp ep (by omega) hf, r_b1, if_pos (show ¬ nI c = 0 from nI_ne0 c0 (by omega)), nI_rm c0 hj (by omega), nI_add, C_batterRound hv c0 c9 (by omega), r_b1]
def hB (c e b p : Nat) (O : Nat → Nat) : Nat := if e ≤ 6 then O ((p + 1) % c) else b
def hF (e fc : Nat) : Nat := if e ≤ 6 then fc + 1 else fc
def hS (s d f e st : Nat) : Nat := if mB s d f e st = 24 then 0 else mB s d f e st
def hI (s d f e st : Nat) : Int32 := if mB s d f e st = 24 then 1 else 0
theorem C_happen {I : e_I} {g c s d f sl ti b p fc st n w e : Nat} {CH : Nat → Nat → Nat} {O : Nat → Nat} (hg : 23 ≤ g) (hN : GN c s d f sl ti CH O b st n w) (hC : GC I g c s d f sl ti CH O b fc st n w) (hT : c_T I s d f) (hp : p < c) (ep : O p = b) (hf : ∀ i, i < p → O i ≠ b) (he : e < 9) (hc : mC e st = true) (hfc : fc < 100000) : wp (f_X0_happen g (nI e) I) (fun q => q.1 = nI (mR s d f e st) ∧ fr (fun a _ => a = g ∨ a = g + 4) I q.2 ∧ GC q.2 g c s d f sl ti CH O (hB c e b p O) (hF e fc) (hS s d f e st) (min (n + 1) 40) ((w + 1) % 40) ∧ q.2 g 1 = I g 1 + hI s d f e st ∧ q.2 g 3 = I g 3 + nI (mR s d f e st) ∧ (q.2 (g + 4) ((w + 1) % 40 * 6) = nI b ∧ q.2 (g + 4) ((w + 1) % 40 * 6 + 1) = nI e ∧ q.2 (g + 4) ((w + 1) % 40 * 6 + 2) = nI (mR s d f e st) ∧ q.2 (g + 4) ((w + 1) % 40 * 6 + 3) = I g 1 ∧ q.2 (g + 4) ((w + 1) % 40 * 6 + 4) = nI st ∧ q.2 (g + 4) ((w + 1) % 40 * 6 + 5) = nI (mB s d f e st)) ∧ ∀ i, ¬ ((w + 1) % 40 * 6 ≤ i ∧ i < (w + 1) % 40 * 6 + 6) → q.2 (g + 4) i = I (g + 4) i) := by
  obtain ⟨n1, n2, n3, n4', n5', n6', n7'⟩ := id hN
  obtain ⟨v, k4, k5, k2, k6, k7⟩ := hC
  have rb := c_runsBy (e := e) hT he n5'
  have bb := c_behind (e := e) hT he n5'
  rw [if_pos hc] at rb bb
  have c9 := n1.1.2
  have c0 := n1.1.1
  have b24 := mB_le n1.2.1 he n5'
  have gn : g ≠ g + 4 := by omega
  unfold f_X0_happen
  rw [k2]
  refine wp_e1 rb (wp_e1 bb (wp_c1 (C_note k6 k7 n6' n7') (fun J hJ => wp_let ?_)))
  obtain ⟨j1, j2, j3, j4, j5⟩ := hJ
  rw [k4, k2] at j4
  have jO : ∀ a i, a ≠ g + 4 → ¬ (a = g ∧ (i = 6 ∨ i = 7)) → J a i = I a i := fun a i h1 h2 => j1 a i (fun q => by
    rcases q with q | q
    · exact h2 q
    · exact h1 q)
  have x3 : J g 3 = I g 3 := jO g 3 gn (by omega)
  rw [x3]
  generalize hA : e_ui J g 3 (I g 3 + nI (mR s d f e st)) = A
  have aO : ∀ a i, ¬ (a = g ∧ i = 3) → A a i = J a i := fun a i h => by
    rw [← hA]
    by_cases y : a = g
    · subst y
      rw [ui_i (show i ≠ 3 from fun q => h ⟨rfl, q⟩)]
    · rw [ui_a y]
  have a3 : A g 3 = I g 3 + nI (mR s d f e st) := by rw [← hA]; exact ui_s
  -- the end: inning and state
  have fin : ∀ (B : e_I) (b' fc' : Nat), (∀ a i, ¬ (a = g ∧ (i = 4 ∨ i = 5)) → B a i = A a i) → B g 4 = nI b' → B g 5 = nI fc' → b' = hB c e b p O → fc' = hF e fc → wp (f_X0_happen_64 g (nI (mR s d f e st)) (nI (mB s d f e st)) B) (fun q => q.1 = nI (mR s d f e st) ∧ fr (fun a _ => a = g ∨ a = g + 4) I q.2 ∧ GC q.2 g c s d f sl ti CH O (hB c e b p O) (hF e fc) (hS s d f e st) (min (n + 1) 40) ((w + 1) % 40) ∧ q.2 g 1 = I g 1 + hI s d f e st ∧ q.2 g 3 = I g 3 + nI (mR s d f e st) ∧ (q.2 (g + 4) ((w + 1) % 40 * 6) = nI b ∧ q.2 (g + 4) ((w + 1) % 40 * 6 + 1) = nI e ∧ q.2 (g + 4) ((w + 1) % 40 * 6 + 2) = nI (mR s d f e st) ∧ q.2 (g + 4) ((w + 1) % 40 * 6 + 3) = I g 1 ∧ q.2 (g + 4) ((w + 1) % 40 * 6 + 4) = nI st ∧ q.2 (g + 4) ((w + 1) % 40 * 6 + 5) = nI (mB s d f e st)) ∧ ∀ i, ¬ ((w + 1) % 40 * 6 ≤ i ∧ i < (w + 1) % 40 * 6 + 6) → q.2 (g + 4) i = I (g + 4) i) := fun B b' fc' hBO hB4 hB5 e1 e2 => by
    have last : ∀ (x : Nat) (D : e_I), x = hS s d f e st → (∀ a i, ¬ (a = g ∧ (i = 1 ∨ i = 4 ∨ i = 5)) → D a i = A a i) → D g 4 = nI b' → D g 5 = nI fc' → D g 1 = I g 1 + hI s d f e st → wp (f_X0_happen_95 g (nI (mR s d f e st)) (nI x) D) (fun q => q.1 = nI (mR s d f e st) ∧ fr (fun a _ => a = g ∨ a = g + 4) I q.2 ∧ GC q.2 g c s d f sl ti CH O (hB c e b p O) (hF e fc) (hS s d f e st) (min (n + 1) 40) ((w + 1) % 40) ∧ q.2 g 1 = I g 1 + hI s d f e st ∧ q.2 g 3 = I g 3 + nI (mR s d f e st) ∧ (q.2 (g + 4) ((w + 1) % 40 * 6) = nI b ∧ q.2 (g + 4) ((w + 1) % 40 * 6 + 1) = nI e ∧ q.2 (g + 4) ((w + 1) % 40 * 6 + 2) = nI (mR s d f e st) ∧ q.2 (g + 4) ((w + 1) % 40 * 6 + 3) = I g 1 ∧ q.2 (g + 4) ((w + 1) % 40 * 6 + 4) = nI st ∧ q.2 (g + 4) ((w + 1) % 40 * 6 + 5) = nI (mB s d f e st)) ∧ ∀ i, ¬ ((w + 1) % 40 * 6 ≤ i ∧ i < (w + 1) % 40 * 6 + 6) → q.2 (g + 4) i = I (g + 4) i) := fun x D hx hD hD4 hD5 hD1 => by
      unfold f_X0_happen_95
      refine wp_let (wp_some ?_)
      have oG : ∀ a i, a ≠ g → e_ui D g 2 (nI x) a i = J a i := fun a i ha => by
        rw [ui_a ha, hD a i (by omega), aO a i (by omega)]
      have og : ∀ i, i ≠ 2 → e_ui D g 2 (nI x) g i = D g i := fun i hi => ui_i hi
      have o4 : ∀ i, e_ui D g 2 (nI x) (g + 4) i = J (g + 4) i := fun i => oG _ i (by omega)
      refine ⟨rfl, fun a i z => ?_, ⟨⟨?_, ?_, ?_, ?_⟩, ?_, ?_, ?_, ?_, ?_⟩, ?_, ?_, ⟨?_, ?_, ?_, ?_, ?_, ?_⟩, fun i hi => ?_⟩
      · show e_ui D g 2 (nI x) a i = I a i
        rw [oG a i (fun q => z (Or.inl q)), jO a i (fun q => z (Or.inr q)) (fun q => z (Or.inl q.1))]
      · show e_ui D g 2 (nI x) g 0 = _
        rw [og 0 (by decide), hD g 0 (by omega), aO g 0 (by omega), jO g 0 gn (by omega)]
        exact v.1
      · show e_ui D g 2 (nI x) (g + 2) 0 = _ ∧ e_ui D g 2 (nI x) (g + 2) 1 = _ ∧ e_ui D g 2 (nI x) (g + 2) 2 = _ ∧ e_ui D g 2 (nI x) (g + 2) 3 = _ ∧ e_ui D g 2 (nI x) (g + 2) 4 = _
        rw [oG _ 0 (by omega), oG _ 1 (by omega), oG _ 2 (by omega), oG _ 3 (by omega), oG _ 4 (by omega), jO _ 0 (by omega) (by omega), jO _ 1 (by omega) (by omega), jO _ 2 (by omega) (by omega), jO _ 3 (by omega) (by omega), jO _ 4 (by omega) (by omega)]
        exact v.2.1
      · intro x1 hx1 x2 hx2
        show e_ui D g 2 (nI x) (g + 1) _ = _
        rw [oG _ _ (by omega), jO _ _ (by omega) (by omega)]
        exact v.2.2.1 x1 hx1 x2 hx2
      · intro x1 hx1
        show e_ui D g 2 (nI x) (g + 3) _ = _ ∧ _
        rw [oG _ _ (by omega), jO _ _ (by omega) (by omega)]
        exact v.2.2.2 x1 hx1
      · show e_ui D g 2 (nI x) g 4 = _
        rw [og 4 (by decide), hD4, e1]
      · show e_ui D g 2 (nI x) g 5 = _
        rw [og 5 (by decide), hD5, e2]
      · show e_ui D g 2 (nI x) g 2 = _
        rw [ui_s, hx]
      · show e_ui D g 2 (nI x) g 6 = _
        rw [og 6 (by decide), hD g 6 (by omega), aO g 6 (by omega)]
        exact j2
      · show e_ui D g 2 (nI x) g 7 = _
        rw [og 7 (by decide), hD g 7 (by omega), aO g 7 (by omega)]
        exact j3
      · show e_ui D g 2 (nI x) g 1 = _
        rw [og 1 (by decide)]
        exact hD1
      · show e_ui D g 2 (nI x) g 3 = _
        rw [og 3 (by decide), hD g 3 (by omega)]
        exact a3
      · exact (o4 _).trans j4.1
      · exact (o4 _).trans j4.2.1
      · exact (o4 _).trans j4.2.2.1
      · exact (o4 _).trans j4.2.2.2.1
      · exact (o4 _).trans j4.2.2.2.2.1
      · exact (o4 _).trans j4.2.2.2.2.2
      · exact (o4 i).trans (j5 i hi)
    have b1 : B g 1 = I g 1 := by rw [hBO g 1 (by omega), aO g 1 (by omega), jO g 1 gn (by omega)]
    unfold f_X0_happen_64 f_X0_happen_81
    by_cases z : mB s d f e st = 24
    · have i1 : hI s d f e st = 1 := if_pos z
      rw [b1]
      refine wp_f (fun n => n (by rw [z]; rfl)) (wp_let (wp_f (fun n => n (by rw [z]; rfl)) ?_))
      refine last 0 _ (by unfold hS; rw [if_pos z]) (fun a i h => ?_) ?_ ?_ ?_
      · by_cases y : a = g
        · subst y
          rw [ui_i (show i ≠ 1 by omega), hBO _ i (by omega)]
        · rw [ui_a y, hBO a i (by omega)]
      · rw [ui_i (show (4 : Nat) ≠ 1 by decide)]
        exact hB4
      · rw [ui_i (show (5 : Nat) ≠ 1 by decide)]
        exact hB5
      · rw [ui_s, i1]
    · have i0 : hI s d f e st = 0 := if_neg z
      have nz : nI (mB s d f e st) ≠ 24 := nI_n (b := 24) z (by omega) (by decide)
      refine wp_t nz (wp_t nz ?_)
      refine last _ B (by unfold hS; rw [if_neg z]) (fun a i h => hBO a i (by omega)) hB4 hB5 ?_
      rw [i0, b1]
      exact (Int32.add_zero _).symm
  have a4 : A g 4 = nI b := by rw [aO g 4 (by omega), jO g 4 gn (by omega)]; exact k4
  have a5 : A g 5 = nI fc := by rw [aO g 5 (by omega), jO g 5 gn (by omega)]; exact k5
  by_cases q : e ≤ 6
  · refine wp_f (nI_nlt (b := e) (a := 6) q (by decide)) ?_
    have vA : CV A g c s d f sl ti CH O := by
      refine ⟨?_, ?_, fun x1 hx1 x2 hx2 => ?_, fun x1 hx1 => ?_⟩
      · rw [aO g 0 (by omega), jO g 0 gn (by omega)]
        exact v.1
      · rw [aO _ 0 (by omega), aO _ 1 (by omega), aO _ 2 (by omega), aO _ 3 (by omega), aO _ 4 (by omega), jO _ 0 (by omega) (by omega), jO _ 1 (by omega) (by omega), jO _ 2 (by omega) (by omega), jO _ 3 (by omega) (by omega), jO _ 4 (by omega) (by omega)]
        exact v.2.1
      · rw [aO _ _ (by omega), jO _ _ (by omega) (by omega)]
        exact v.2.2.1 x1 hx1 x2 hx2
      · rw [aO _ _ (by omega), jO _ _ (by omega) (by omega)]
        exact v.2.2.2 x1 hx1
    refine wp_e1 (show f_X0_batterBehind g 1 A = _ from C_behind2 (j := 1) vA c0 c9 a4 n4' hp ep hf (by decide)) (wp_let (wp_let ?_))
    have x5 : e_ui A g 4 (nI (O ((p + 1 % c) % c))) g 5 = nI fc := (ui_i (show (5 : Nat) ≠ 4 by decide)).trans a5
    rw [x5, nI_1 fc]
    refine fin _ (O ((p + 1 % c) % c)) (fc + 1) (fun a i h => ?_) ?_ ui_s ?_ ?_
    · by_cases y : a = g
      · subst y
        rw [ui_i (show i ≠ 5 by omega), ui_i (show i ≠ 4 by omega)]
      · rw [ui_a y, ui_a y]
    · rw [ui_i (show (4 : Nat) ≠ 5 by decide), ui_s]
    · unfold hB
      rw [if_pos q, Nat.add_mod_mod]
    · unfold hF
      rw [if_pos q]
  · refine wp_t (nI_lt (a := 6) (by omega) (by omega)) ?_
    refine fin A b fc (fun a i _ => rfl) a4 a5 ?_ ?_
    · unfold hB
      rw [if_neg q]
    · unfold hF
      rw [if_neg q]
