-- A TURN, drawn
theorem hs_up {g : Nat → Nat} {a : Nat} : ∀ m, hs g a ≤ hs g (a + m)
  | 0 => Nat.le_refl _
  | m + 1 => Nat.le_trans (hs_up m) (Nat.le_add_right _ _)
theorem hs_find {g : Nat → Nat} {y : Nat} : ∀ n, y < hs g n → ∃ e, e < n ∧ hs g e ≤ y ∧ y < hs g (e + 1)
  | 0, h => absurd h (Nat.not_lt_zero _)
  | n + 1, h => by
    by_cases q : hs g n ≤ y
    · exact ⟨n, Nat.lt_succ_self n, q, h⟩
    · obtain ⟨e, h1, h2, h3⟩ := hs_find (g := g) (y := y) n (by omega)
      exact ⟨e, by omega, h2, h3⟩
theorem nI_less {a b : Nat} (h : a < b) (hb : b < 2 ^ 31) : ¬ nI a - nI b ≥ 0 := fun q => by
  have k := Int32.le_iff_toInt_le.mp q
  rw [Int32.toInt_sub, nI_toInt (by omega), nI_toInt hb, Int.bmod_eq_of_le (by omega) (by omega)] at k
  have z : (0 : Int32).toInt = 0 := rfl
  rw [z] at k
  omega
theorem C_dh {I : e_I} {g c s d f sl ti b fc y e : Nat} {CH : Nat → Nat → Nat} {O : Nat → Nat} (hv : CV I g c s d f sl ti CH O) (hn : NV c s d f sl ti CH) (hb : b < c) (h4 : I g 4 = nI b) (h5 : I g 5 = nI fc) (hf : fc < 2 ^ 30) (hy : y < 20) (he : e ≤ 5) (h1 : hs (sh1 ti CH b fc) e ≤ y) (h2 : y < hs (sh1 ti CH b fc) (e + 1)) {L : e_L} : ∀ m e0 n, e0 + m = e → m < n → f_X5_drawHit_7 g I (fun (L_3 : e_L) => some (5, L_3)) (fun (v3_4 : Int32) (L_5 : e_L) => some (v3_4, L_5)) n (nI (y - hs (sh1 ti CH b fc) e0)) (nI e0) L = some (nI e, L) := by
  intro m
  induction m with
  | zero =>
    intro e0 n h0 hm
    obtain ⟨k, rfl⟩ : ∃ k, n = k + 1 := ⟨n - 1, by omega⟩
    have h0 : e0 = e := h0
    subst h0
    unfold f_X5_drawHit_7
    by_cases q : e0 = 5
    · subst q
      exact if_pos (by decide)
    · have lt := sh1_lt (e := e0) (fc := fc) hn hb (by omega)
      rw [if_neg (show ¬ nI e0 ≥ 5 from c_ge (N := 5) (by omega) (by decide)), h4, h5, C_tiredChance hv hn hb (by omega) hf, r_b1]
      refine if_neg (nI_less ?_ lt)
      have : hs (sh1 ti CH b fc) (e0 + 1) = hs (sh1 ti CH b fc) e0 + sh1 ti CH b fc e0 := rfl
      omega
  | succ m ih =>
    intro e0 n h0 hm
    obtain ⟨k, rfl⟩ : ∃ k, n = k + 1 := ⟨n - 1, by omega⟩
    have up := hs_up (g := sh1 ti CH b fc) (a := e0 + 1) (e - (e0 + 1))
    rw [show e0 + 1 + (e - (e0 + 1)) = e by omega] at up
    have dd : hs (sh1 ti CH b fc) (e0 + 1) = hs (sh1 ti CH b fc) e0 + sh1 ti CH b fc e0 := rfl
    unfold f_X5_drawHit_7
    rw [if_neg (show ¬ nI e0 ≥ 5 from c_ge (N := 5) (by omega) (by decide)), h4, h5, C_tiredChance hv hn hb (by omega) hf, r_b1]
    have es : nI (y - hs (sh1 ti CH b fc) e0) - nI (sh1 ti CH b fc e0) = nI (y - hs (sh1 ti CH b fc) (e0 + 1)) := by
      rw [nI_sub (by omega), show y - hs (sh1 ti CH b fc) e0 - sh1 ti CH b fc e0 = y - hs (sh1 ti CH b fc) (e0 + 1) by omega]
    rw [es]
    have ps : nI (y - hs (sh1 ti CH b fc) (e0 + 1)) ≥ 0 := nI_pos' (by omega)
    refine (if_pos ps).trans ?_
    rw [nI_1 e0]
    exact ih (e0 + 1) k (by omega) (by omega)
theorem M_dh {J : e_I} {M : e_L} {c s d f sl ti b fc y e : Nat} {v : Int32} {CH : Nat → Nat → Nat} (hm : MV J c s d f sl ti CH) (hn : NV c s d f sl ti CH) (hb : b < c) (h4 : J 85 72 = nI b) (h5 : J 85 73 = nI fc) (hf : fc < 2 ^ 30) (hy : y < 20) (he : e ≤ 5) (h1 : hs (sh1 ti CH b fc) e ≤ y) (h2 : y < hs (sh1 ti CH b fc) (e + 1)) (h20 : hs (sh1 ti CH b fc) 6 = 20) {k : Int32 → e_I → e_L → Option (Int32 × e_I × e_L)} : ∀ m e0 n, e0 + m = e → m < n → f_X8_turn_121 v (nI y) k n (nI e0) (nI (hs (sh1 ti CH b fc) (e0 + 1))) J M = k (nI e) J M := by
  have b20 : ∀ a, a ≤ 6 → hs (sh1 ti CH b fc) a ≤ 20 := fun a ha => by
    have up := hs_up (g := sh1 ti CH b fc) (a := a) (6 - a)
    rw [show a + (6 - a) = 6 by omega, h20] at up
    exact up
  have t72 : (72 : Int32).toNatClampNeg = 72 := rfl
  have t73 : (73 : Int32).toNatClampNeg = 73 := rfl
  intro m
  induction m with
  | zero =>
    intro e0 n h0 hq
    obtain ⟨q, rfl⟩ : ∃ q, n = q + 1 := ⟨n - 1, by omega⟩
    have h0 : e0 = e := h0
    subst h0
    unfold f_X8_turn_121
    have b1 := b20 (e0 + 1) (by omega)
    exact if_pos ((nI_ltI (by omega) (by omega)).mpr h2)
  | succ m ih =>
    intro e0 n h0 hq
    obtain ⟨q, rfl⟩ : ∃ q, n = q + 1 := ⟨n - 1, by omega⟩
    have up := hs_up (g := sh1 ti CH b fc) (a := e0 + 1) (e - (e0 + 1))
    rw [show e0 + 1 + (e - (e0 + 1)) = e by omega] at up
    have dd : hs (sh1 ti CH b fc) (e0 + 1 + 1) = hs (sh1 ti CH b fc) (e0 + 1) + sh1 ti CH b fc (e0 + 1) := rfl
    unfold f_X8_turn_121
    have b1 := b20 (e0 + 1) (by omega)
    rw [if_neg (fun z => absurd ((nI_ltI (by omega) (by omega)).mp z) (by omega))]
    rw [t72, t73, h4, h5]
    show e_b1 (f_X8_chanceOf (nI b) (nI e0 + 1) (nI fc) J) _ = _
    rw [nI_1 e0, M_chance hm hn hb (by omega) hf, r_b1]
    show f_X8_turn_121 v (nI y) k q (nI (e0 + 1)) (nI (hs (sh1 ti CH b fc) (e0 + 1)) + nI (sh1 ti CH b fc (e0 + 1))) J M = _
    rw [nI_add, ← dd]
    exact ih (e0 + 1) q (by omega) (by omega)
-- the two games side by side
def TN (g c s d f sl ti : Nat) (CH : Nat → Nat → Nat) (O : Nat → Nat) (b fc st n w x : Nat) (I : e_I) (L : e_L) (J : e_I) (M : e_L) : Prop := GN c s d f sl ti CH O b st n w ∧ GC I g c s d f sl ti CH O b fc st n w ∧ GM J c s d f sl ti CH O b fc st n ∧ G2 I J g n w ∧ c_T I s d f ∧ I 11 5 = 0 ∧ c_Z L ∧ L 22 0 = lN x ∧ M 83 31 = lN x ∧ x < 2147483647
def TR (g B : Nat) (I : e_I) (L : e_L) (J : e_I) (M : e_L) : Prop := ∃ c s d f sl ti CH O b fc st n w x, TN g c s d f sl ti CH O b fc st n w x I L J M ∧ fc ≤ B
def cF (g a : Nat) (_i : Nat) : Prop := a = g ∨ a = g + 4 ∨ a = 17 ∨ a = 11
def mF (a i : Nat) : Prop := (a = 85 ∧ 69 ≤ i ∧ i < 396) ∨ (a = 83 ∧ ((19 ≤ i ∧ i ≤ 21) ∨ i = 27)) ∨ a = 91 ∨ a = 92
def mL (a _i : Nat) : Prop := a = 83 ∨ a = 89 ∨ a = 90
def TO (g B : Nat) (I : e_I) (J : e_I) (M : e_L) (o7 o8 : Option (Int32 × e_I × e_L)) : Prop := ∃ r I' L' J' M', o7 = some (r, I', L') ∧ o8 = some (r, J', M') ∧ TR g B I' L' J' M' ∧ fr (cF g) I I' ∧ fr mF J J' ∧ frL mL M M'
theorem S_hap {g c s d f sl ti b fc st n w x p e : Nat} {CH : Nat → Nat → Nat} {O : Nat → Nat} {I : e_I} {L : e_L} {J : e_I} {M : e_L} (hg : 23 ≤ g) (h : TN g c s d f sl ti CH O b fc st n w x I L J M) (hp : p < c) (ep : O p = b) (hf : ∀ i, i < p → O i ≠ b) (he : e < 9) (hc : mC e st = true) (hfc : fc < 100000) : ∃ I' J', f_X0_happen g (nI e) I = some (nI (mR s d f e st), I') ∧ f_X8_happens (nI e) J = some (nI (mR s d f e st), J') ∧ TN g c s d f sl ti CH O (hB c e b p O) (hF e fc) (hS s d f e st) (min (n + 1) 40) ((w + 1) % 40) x I' L J' M ∧ fr (fun a _ => a = g ∨ a = g + 4) I I' ∧ fr hpF J J' := by
  obtain ⟨gN, gC, gM, g2, gT, z11, zZ, s1, s2, hx⟩ := h
  obtain ⟨⟨r, I'⟩, e7, q1, q2, q3, q4, q5, q6, q7⟩ := C_happen hg gN gC gT hp ep hf he hc hfc
  obtain ⟨⟨r2, J'⟩, e8, m1, m2, m3, m4, m5, m6, m7⟩ := M_happen gN gM hp ep hf he hfc
  have q1 : r = nI (mR s d f e st) := q1
  have m1 : r2 = nI (mR s d f e st) := m1
  subst q1
  subst m1
  refine ⟨I', J', e7, e8, ⟨GN_happen gN hp he, q3, m3, G2_happen gN g2 he q4 q5 q6 q7 m4 m5 m6 m7, ?_, ?_, zZ, s1, s2, hx⟩, q2, m2⟩
  · exact c_T_fr (fun i => q2 13 i (fun z => by rcases z with z | z <;> omega)) (fun i => q2 14 i (fun z => by rcases z with z | z <;> omega)) gT
  · exact (q2 11 5 (fun z => by rcases z with z | z <;> omega)).trans z11
theorem c_Z_22 {L : e_L} {v : Int64} (h : c_Z L) : c_Z (e_ul L 22 0 v) := by
  refine ⟨fun q hq => ?_, fun j hj => ?_, ?_⟩
  · rw [ul_a (by decide)]
    exact h.1 q hq
  · rw [ul_a (by decide)]
    exact h.2.1 j hj
  · rw [ul_a (by decide)]
    exact h.2.2
theorem S_draw {g c s d f sl ti b fc st n w x : Nat} {CH : Nat → Nat → Nat} {O : Nat → Nat} {I : e_I} {L : e_L} {J : e_I} {M : e_L} (h : TN g c s d f sl ti CH O b fc st n w x I L J M) : ∃ x', f_X5_drawTwentieth L = some (nI (x' % 20), e_ul L 22 0 (lN x')) ∧ f_X8_draws M = some (nI (x' % 20), e_ul M 83 31 (lN x')) ∧ TN g c s d f sl ti CH O b fc st n w x' I (e_ul L 22 0 (lN x')) J (e_ul M 83 31 (lN x')) := by
  obtain ⟨gN, gC, gM, g2, gT, z11, zZ, s1, s2, hx⟩ := h
  have hm : 16807 * x % 2147483647 < 2147483647 := Nat.mod_lt _ (by decide)
  refine ⟨16807 * x % 2147483647, ?_, ?_, gN, gC, gM, g2, gT, z11, c_Z_22 zZ, ul_s, ul_s, hm⟩
  · unfold f_X5_drawTwentieth
    have e1 : e_rml ((16807 : Int64) * L 22 0) 2147483647 = lN (16807 * x % 2147483647) := by
      rw [s1, l16807, l2147483647, lN_mul, lN_rm (by decide) (by omega) (by decide)]
    rw [e1]
    show some ((e_rml (e_ul L 22 0 (lN (16807 * x % 2147483647)) 22 0) 20).toInt32, _) = _
    rw [ul_s, l20, lN_rm (by decide) (by omega) (by decide), lN_i]
  · unfold f_X8_draws
    have e1 : e_rml (M 83 31 * (16807 : Int64)) 2147483647 = lN (16807 * x % 2147483647) := by
      rw [s2, l16807, l2147483647, lN_mul, Nat.mul_comm x, lN_rm (by decide) (by omega) (by decide)]
    rw [e1]
    show some ((e_rml (e_ul M 83 31 (lN (16807 * x % 2147483647)) 83 31) 20).toInt32, _) = _
    rw [ul_s, l20, lN_rm (by decide) (by omega) (by decide), lN_i]
theorem cF_h {g : Nat} {I J : e_I} (h : fr (fun a _ => a = g ∨ a = g + 4) I J) : fr (cF g) I J := fr_mono (fun a i z => by
  rcases z with z | z
  · exact Or.inl z
  · exact Or.inr (Or.inl z)) h
theorem mF_h {I J : e_I} (h : fr hpF I J) : fr mF I J := fr_mono (fun a i z => by
  rcases z with z | z
  · exact Or.inl z
  · exact Or.inr (Or.inl ⟨z.1, Or.inl z.2⟩)) h
theorem hF_le {e fc : Nat} : hF e fc ≤ fc + 1 := by
  unfold hF
  split <;> omega
-- the swing
theorem S_89 {g B c s d f sl ti b fc st n w x : Nat} {CH : Nat → Nat → Nat} {O : Nat → Nat} {I : e_I} {L : e_L} {J : e_I} {M : e_L} {v : Int32} (hg : 23 ≤ g) (h : TN g c s d f sl ti CH O b fc st n w x I L J M) (hB : fc ≤ B) (hB2 : B < 100000) (hv : v = 1 → mC 6 st = true) : TO g (B + 1) I J M (f_X5_playOne_89 g v I L) (f_X8_turn_77 v 0 J M) := by
  obtain ⟨p, hp, ep, hf⟩ := GN_place h.1
  have lst : ∀ e x' L1 M1, e < 9 → mC e st = true → TN g c s d f sl ti CH O b fc st n w x' I L1 J M1 → frL mL M M1 → ∃ r I' J', f_X0_happen g (nI e) I = some (r, I') ∧ f_X8_happens (nI e) J = some (r, J') ∧ TR g (B + 1) I' L1 J' M1 ∧ fr (cF g) I I' ∧ fr mF J J' := fun e x' L1 M1 he hc h1 _ => by
    obtain ⟨I', J', a1, a2, a3, a4, a5⟩ := S_hap hg h1 hp ep hf he hc (by omega)
    exact ⟨_, I', J', a1, a2, ⟨c, s, d, f, sl, ti, CH, O, _, _, _, _, _, x', a3, Nat.le_trans hF_le (by omega)⟩, cF_h a4, mF_h a5⟩
  unfold f_X5_playOne_89 f_X8_turn_77
  by_cases q : v = 1
  · obtain ⟨r, I', J', a1, a2, a3, a4, a5⟩ := lst 6 x L M (by decide) (hv q) h frL_rfl
    have a1 : f_X0_happen g 6 I = some (r, I') := a1
    have a2 : f_X8_happens 6 J = some (r, J') := a2
    rw [if_neg (fun z => z q), if_neg (fun z => z q), a2, r_b2, Int32.zero_add]
    unfold f_X5_playOne_110
    rw [a1, r_b2]
    exact ⟨r, I', L, J', M, rfl, rfl, a3, a4, a5, frL_rfl⟩
  · rw [if_pos q, if_pos q]
    obtain ⟨x', d1, d2, d3⟩ := S_draw h
    obtain ⟨gN, gC, gM, _⟩ := id h
    have hb : b < c := gN.2.2.2.1
    have h20 : hs (sh1 ti CH b fc) 6 = 20 := sh1_sum (gN.1.2.2.2.2 b hb)
    have hy : x' % 20 < 20 := Nat.mod_lt _ (by decide)
    obtain ⟨e, he, e1, e2⟩ := hs_find (g := sh1 ti CH b fc) (y := x' % 20) 6 (by rw [h20]; exact hy)
    obtain ⟨r, I', J', a1, a2, a3, a4, a5⟩ := lst e x' _ _ (by omega) (show mC e st = true by unfold mC; rw [if_pos he]) d3 (frL_ul (Or.inl rfl))
    have cd := C_dh gC.1 gN.1 hb gC.2.1 gC.2.2.1 (by omega) hy (by omega) e1 e2 (L := e_ul L 22 0 (lN x')) e 0 e_FU (by omega) (wp_FU (by omega))
    have t72 : (72 : Int32).toNatClampNeg = 72 := rfl
    have t73 : (73 : Int32).toNatClampNeg = 73 := rfl
    have ch : f_X8_chanceOf (J 85 (72 : Int32).toNatClampNeg) 0 (J 85 (73 : Int32).toNatClampNeg) J = some (nI (sh1 ti CH b fc 0)) := by
      rw [t72, t73, gM.2.2.1, gM.2.2.2.1]
      exact M_chance (e := 0) gM.1 gN.1 hb (by decide) (by omega)
    rw [d2, r_b2, ch, r_b1]
    have md := M_dh (M := e_ul M 83 31 (lN x')) (v := 0) gM.1 gN.1 hb gM.2.2.1 gM.2.2.2.1 (by omega) hy (by omega) e1 e2 h20 (k := fun (v5_5 : Int32) (I_6 : e_I) (L_7 : e_L) =>
      e_b2 (f_X8_happens v5_5 I_6) (fun (r_8 : Int32) (I_9 : e_I) =>
      some (((0 : Int32) + r_8), I_9, L_7))) e 0 e_FU (by omega) (wp_FU (by omega))
    have z1 : hs (sh1 ti CH b fc) (0 + 1) = sh1 ti CH b fc 0 := Nat.zero_add _
    rw [z1] at md
    have md2 := md.trans (show _ = some (r, J', e_ul M 83 31 (lN x')) by
      show e_b2 (f_X8_happens (nI e) J) _ = _
      rw [a2, r_b2, Int32.zero_add])
    unfold f_X5_drawHit
    rw [d1, r_b2]
    have cd2 : f_X5_drawHit_7 g I (fun (L_3 : e_L) => some (5, L_3)) (fun (v3_4 : Int32) (L_5 : e_L) => some (v3_4, L_5)) e_FU (nI (x' % 20)) 0 (e_ul L 22 0 (lN x')) = some (nI e, e_ul L 22 0 (lN x')) := cd
    refine ⟨r, I', _, J', _, ?_, md2, a3, a4, a5, frL_ul (Or.inl rfl)⟩
    rw [cd2, r_b2]
    unfold f_X5_playOne_110
    rw [a1, r_b2]
