-- ACTS: event, relieve, begin
theorem G2_happen {I J I' J' : e_I} {g c s d f sl ti b st n w e : Nat} {CH : Nat → Nat → Nat} {O : Nat → Nat} (hN : GN c s d f sl ti CH O b st n w) (h2 : G2 I J g n w) (he : e < 9) (c1 : I' g 1 = I g 1 + hI s d f e st) (c3 : I' g 3 = I g 3 + nI (mR s d f e st)) (cr : I' (g + 4) ((w + 1) % 40 * 6) = nI b ∧ I' (g + 4) ((w + 1) % 40 * 6 + 1) = nI e ∧ I' (g + 4) ((w + 1) % 40 * 6 + 2) = nI (mR s d f e st) ∧ I' (g + 4) ((w + 1) % 40 * 6 + 3) = I g 1 ∧ I' (g + 4) ((w + 1) % 40 * 6 + 4) = nI st ∧ I' (g + 4) ((w + 1) % 40 * 6 + 5) = nI (mB s d f e st)) (co : ∀ i, ¬ ((w + 1) % 40 * 6 ≤ i ∧ i < (w + 1) % 40 * 6 + 6) → I' (g + 4) i = I (g + 4) i) (m69 : J' 85 69 = J 85 69 + hI s d f e st) (m74 : J' 85 74 = J 85 74 + nI (mR s d f e st)) (mr : mrow J J' s d f e st b (76 + 8 * min n 39)) (mo : ∀ r, r < min n 39 → ∀ k, k < 8 → J' 85 (76 + 8 * r + k) = J 85 (76 + 8 * (r + (if n = 40 then 1 else 0)) + k)) : G2 I' J' g (min (n + 1) 40) ((w + 1) % 40) := by
  obtain ⟨n1, n2, n3, n4', n5', n6', n7'⟩ := hN
  obtain ⟨g1, g3, gl⟩ := h2
  obtain ⟨x1, x2, x3, x4, x5, x6⟩ := m_f1 n1.2.1 he n5'
  refine ⟨by rw [c1, m69, g1], by rw [c3, m74, g3], fun j hj => ?_⟩
  by_cases q : j = 0
  · subst q
    rw [show ((w + 1) % 40 + 40 - 0) % 40 = (w + 1) % 40 by omega, show 76 + 8 * (min (n + 1) 40 - 1 - 0) = 76 + 8 * min n 39 by omega]
    obtain ⟨r0, r1, r2, r3, r4, r5, r6, r7⟩ := mr
    obtain ⟨k0, k1, k2, k3, k4, k5⟩ := cr
    unfold r_note
    rw [r0, r1, r2, r3, r4, r5, r6, r7, k0, k1, k2, k3, k4, k5]
    refine ⟨rfl, rfl, rfl, g1, nI_pos' (by omega), nI_le (b := 7) (by omega) (by decide), nI_pos' (by omega), nI_le (b := 2) (by omega) (by decide), ?_, nI_pos' (by omega), nI_le (b := 7) (by omega) (by decide), nI_pos' (by omega), nI_le (b := 3) x2 (by decide), ?_, nI_pos' (by omega), nI_le (b := 4) x6 (by decide), fun z => ?_⟩
    · rw [n8, nI_mul, nI_add]
      congr 1
      omega
    · rw [n8, nI_mul, nI_add]
      congr 1
      unfold mB
      by_cases y : mO e st = 3
      · have eA : mA s d f e st = 0 := by
          unfold mA
          rw [if_pos y]
        rw [if_pos y, eA, y]
      · rw [if_neg y]
        omega
    · have y : mO e st = 3 := (nI_eq (b := 3) (by omega) (by decide)).mp z
      have eA : mA s d f e st = 0 := by
        unfold mA
        rw [if_pos y]
      rw [eA]
      rfl
  · have old := gl (j - 1) (by omega)
    have es : ((w + 1) % 40 + 40 - j) % 40 = (w + 40 - (j - 1)) % 40 := by omega
    rw [es]
    have sl := Nat.mod_lt (w + 40 - (j - 1)) (show 0 < 40 by decide)
    have sn : (w + 40 - (j - 1)) % 40 ≠ (w + 1) % 40 := by omega
    refine r_note_congr (fun i hi => co _ (by omega)) (fun i hi => ?_) old
    rw [mo (min (n + 1) 40 - 1 - j) (by omega) i hi]
    congr 2
    by_cases z : n = 40
    · rw [if_pos z]
      omega
    · rw [if_neg z]
      omega
theorem GN_happen {c s d f sl ti b p st n w e : Nat} {CH : Nat → Nat → Nat} {O : Nat → Nat} (hN : GN c s d f sl ti CH O b st n w) (hp : p < c) (he : e < 9) : GN c s d f sl ti CH O (hB c e b p O) (hS s d f e st) (min (n + 1) 40) ((w + 1) % 40) := by
  obtain ⟨n1, n2, n3, n4', n5', n6', n7'⟩ := hN
  refine ⟨n1, n2, n3, ?_, (hS_m n1.2.1 he n5').2.2.1, Nat.min_le_right _ _, by omega⟩
  unfold hB
  by_cases q : e ≤ 6
  · rw [if_pos q]
    exact n2 _ (Nat.mod_lt _ n1.1.1)
  · rw [if_neg q]
    exact n4'
theorem GN_place {c s d f sl ti b st n w : Nat} {CH : Nat → Nat → Nat} {O : Nat → Nat} (hN : GN c s d f sl ti CH O b st n w) : ∃ p, p < c ∧ O p = b ∧ ∀ i, i < p → O i ≠ b := by
  obtain ⟨n1, n2, n3, n4', n5', n6', n7'⟩ := hN
  obtain ⟨p, hp, ep⟩ := pig c O n2 n3 b n4'
  refine ⟨p, hp, ep, fun i hi e => ?_⟩
  have := n3 i p (by omega) hp (by rw [e, ep])
  omega
-- the numbers of the game that goes on
theorem Rl_nums {t : Nat} {I : e_I} {L : e_L} (h : Rl t I L) (hx : I 83 6 ≠ 0) (ht : t < 600) : ∃ c s d f sl ti CH O b fc st n w, GN c s d f sl ti CH O b st n w ∧ GC I 23 c s d f sl ti CH O b fc st n w ∧ GM I c s d f sl ti CH O b fc st n ∧ G2 I I 23 n w ∧ c_T I s d f ∧ fc ≤ 100 * t := by
  rcases h.2.2.1 with h3 | h3
  · exact absurd h3.1 hx
  · obtain ⟨c, s, d, f, sl, ti, CH, O, b, fc, st, n, w, a1, a2, a3, a4, a5, a6, _⟩ := GR_to (g := 23) (J := I) (by decide) h3.2 (h.2.2.2.2.2.1 hx).1 (by omega)
    exact ⟨c, s, d, f, sl, ti, CH, O, b, fc, st, n, w, a1, a2, a3, a4, a5, a6⟩
theorem GC_same {I J : e_I} {c s d f sl ti b fc st n w : Nat} {CH : Nat → Nat → Nat} {O : Nat → Nat} (h : ∀ a i, 23 ≤ a → a ≤ 27 → J a i = I a i) (hC : GC I 23 c s d f sl ti CH O b fc st n w) : GC J 23 c s d f sl ti CH O b fc st n w := by
  obtain ⟨v, k4, k5, k2, k6, k7⟩ := hC
  refine ⟨CV_fr (fun i => h 23 i (by decide) (by decide)) (fun i => h 24 i (by decide) (by decide)) (fun i => h 25 i (by decide) (by decide)) (fun i => h 26 i (by decide) (by decide)) v, ?_, ?_, ?_, ?_, ?_⟩
  · rw [h 23 4 (by decide) (by decide)]; exact k4
  · rw [h 23 5 (by decide) (by decide)]; exact k5
  · rw [h 23 2 (by decide) (by decide)]; exact k2
  · rw [h 23 6 (by decide) (by decide)]; exact k6
  · rw [h 23 7 (by decide) (by decide)]; exact k7
theorem GM_same {I J : e_I} {c s d f sl ti b fc st n : Nat} {CH : Nat → Nat → Nat} {O : Nat → Nat} (h : ∀ i, J 85 i = I 85 i) (hM : GM I c s d f sl ti CH O b fc st n) : GM J c s d f sl ti CH O b fc st n := by
  obtain ⟨v, mo, m72, m73, m70, m71, m75⟩ := hM
  exact ⟨MV_85 h v, fun i hi => by rw [h]; exact mo i hi, by rw [h]; exact m72, by rw [h]; exact m73, by rw [h]; exact m70, by rw [h]; exact m71, by rw [h]; exact m75⟩
theorem G2_same {I J I' J' : e_I} {g n w : Nat} (hC : ∀ i, I' g i = I g i) (hC4 : ∀ i, I' (g + 4) i = I (g + 4) i) (hM : ∀ i, J' 85 i = J 85 i) (h : G2 I J g n w) : G2 I' J' g n w := by
  have e4 : I' (g + 4) = I (g + 4) := funext hC4
  have e85 : J' 85 = J 85 := funext hM
  unfold G2
  rw [hC 1, hC 3, e4, e85]
  exact h
theorem Rl_act2 {t T C : Nat} {I I1 I2 A B : e_I} {M : e_L} {L : e_L} {c s d f sl ti b fc st n w : Nat} {CH : Nat → Nat → Nat} {O : Nat → Nat} (h : Rl t I L) (hx : I 83 6 ≠ 0) (ht : t < 600) (p1 : I 9 1 = nI T) (hT10 : T < 10) (p2 : I 9 2 = nI C) (hC : C ≤ 10)
    (hA : fr (kpF T) (r_R7 I 0) A ∧ A 9 1 = nI ((T + 1) % 10) ∧ A 9 2 = nI (min (C + 1) 10) ∧ cpF (r_R7 I 0) A (33 + 5 * T) 23)
    (h7 : ∀ a i, r_live a i = true → ¬ (23 ≤ a ∧ a ≤ 27) → a ≠ 13 → a ≠ 14 → I1 a i = A a i)
    (hB : fr rmF (r_R8 I1 0) B ∧ B 83 33 = nI (min (C + 1) 10) ∧ (∀ k, k < 396 → B 96 (396 * min C 9 + k) = r_R8 I1 0 85 k) ∧ (∀ r, r < min C 9 → ∀ k, k < 396 → B 96 (396 * r + k) = r_R8 I1 0 96 (396 * (r + (if C = 10 then 1 else 0)) + k)))
    (h8 : ∀ a i, r_live a i = true → a ≠ 85 → I2 a i = B a i)
    (gN : GN c s d f sl ti CH O b st n w) (gC : GC I1 23 c s d f sl ti CH O b fc st n w) (gM : GM I2 c s d f sl ti CH O b fc st n) (g2 : G2 I1 I2 23 n w) (gT : c_T I1 s d f) (gf : fc ≤ 100 * (t + 1)) (hn : I2 85 0 = I 85 0) (h11 : I2 11 5 = 0) (hz : c_Z M) : Rl (t + 1) I2 M := by
  have s12 : ∀ a i, r_live a i = true → a ≠ 85 → a ≠ 96 → a ≠ 83 → a ≠ 0 → I2 a i = I1 a i := fun a i l n1 n2 n3 n4 => by
    rw [h8 a i l n1, hB.1 a i (fun z => by
      rcases z with z | z
      · exact n2 z
      · exact n3 z.1)]
    unfold r_R8
    rw [ui_a n3, ui_a n3, ui_a n3]
  have cl : ∀ a, 23 ≤ a → a ≤ 27 → I2 a = I1 a := fun a x y => funext fun i => s12 a i (by
    have cc : a = 23 ∨ a = 24 ∨ a = 25 ∨ a = 26 ∨ a = 27 := by omega
    rcases cc with rfl | rfl | rfl | rfl | rfl <;> rfl) (by omega) (by omega) (by omega) (by omega)
  refine Rl_act h hx p1 hT10 p2 hC hA h7 hB h8 ?_ ?_ hn h11 hz
  · rw [cl 23 (by decide) (by decide), cl 24 (by decide) (by decide), cl 25 (by decide) (by decide), cl 26 (by decide) (by decide), cl 27 (by decide) (by decide)]
    exact GR_of (I := I1) (J := I2) (g := 23) gN gC gM g2 gf (by omega)
  · rw [cl 25 (by decide) (by decide)]
    obtain ⟨⟨_, ⟨r0, r1, r2, _⟩, _⟩, _⟩ := gC
    have rv := gN.1.2.1
    rw [r0, r1, r2, nI_r (by have := rv.1.2; omega), nI_r (by have := rv.2.1.2; omega), nI_r (by have := rv.2.2; omega)]
    exact c_T_fr (fun i => s12 13 i rfl (by decide) (by decide) (by decide) (by decide)) (fun i => s12 14 i rfl (by decide) (by decide) (by decide) (by decide)) gT
-- keeping leaves the game alone
theorem kp_game {T : Nat} {I A : e_I} (hT : T < 10) (h : fr (kpF T) I A) : (∀ a i, 23 ≤ a → a ≤ 27 → A a i = I a i) ∧ (∀ a i, a < 9 ∨ (9 < a ∧ a ≤ 32) ∨ 83 ≤ a → A a i = I a i) := by
  refine ⟨fun a i x y => h a i (fun z => by rcases z with z | z <;> omega), fun a i x => h a i (fun z => by rcases z with z | z <;> omega)⟩
theorem T_event (t : Nat) (ht : t < 600) : ST_event (Rl t) (Rl (t + 1)) := by
  intro e I L h
  have hx := Rl_hx h
  have bad : ∀ x, x ≠ 0 → x ≠ 4 → f_X7_troubleOfEvent e I = some x → f_X8_event e (r_R7 I x) = f_X8_event_61 e x (r_R7 I x) → ∃ r I1 I2, f_X7_event e I = some (r, I1) ∧ f_X8_event e I1 = some (r, I2) ∧ Rl (t + 1) I2 L := fun x h0 h4 e7 e8 => by
    refine bad_1 (v := x) h h4 ?_ ?_
    · unfold f_X7_event
      rw [e7, r_b1, r_refused, r_b2, r_b_n h0]
      rfl
    · rw [e8]
      unfold f_X8_event_61
      rw [r_isRefused, r_b2, r_b_n h0]
      rfl
  by_cases hx0 : I 83 6 = 0
  · refine bad 1 (by decide) (by decide) ?_ ?_
    · unfold f_X7_troubleOfEvent f_X7_troubleOfEvent_17
      rw [hx, r_b1, if_pos hx0]
    · unfold f_X8_event f_X8_event_21 f_X8_event_22
      rw [if_pos (show r_R7 I 1 83 6 = 0 from hx0), r_unless, r_b1, if_pos rfl, if_neg (by decide)]
  · by_cases he : 0 ≤ e ∧ e ≤ 8
    · obtain ⟨c, s, d, f, sl, ti, CH, O, b, fc, st, n, w, gN, gC, gM, g2, gT, gf⟩ := Rl_nums h hx0 ht
      obtain ⟨E, _, hE, rfl⟩ := nI_btw (m := 0) (n := 8) rfl rfl he.1 he.2
      have rv := gN.1.2.1
      have hst := gN.2.2.2.2.1
      have w7 : f_X7_troubleOfEvent (nI E) I = some (if mC E st then 0 else 5) := by
        unfold f_X7_troubleOfEvent f_X7_troubleOfEvent_45
        rw [hx, r_b1, if_neg hx0, r_within, if_pos he, r_b1, if_pos (by decide), gC.2.2.2.1, c_can_at rv gT (by omega) hst, r_b1]
        by_cases q : mC E st = true
        · rw [if_pos q, if_neg (by decide), if_pos q]
        · rw [if_neg q, if_pos rfl, if_neg q]
      have w8 : ∀ J : e_I, J 83 6 = I 83 6 → (∀ i, J 85 i = I 85 i) → f_X8_event (nI E) J = f_X8_event_61 (nI E) (if mC E st then 0 else 5) J := fun J hJ h85 => by
        have t70 : (70 : Int32).toNatClampNeg = 70 := rfl
        have t71 : (71 : Int32).toNatClampNeg = 71 := rfl
        unfold f_X8_event f_X8_event_22
        have u1 : f_X8_unless 1 = some 0 := by
          rw [r_unless]
          rfl
        rw [hJ, if_neg hx0, r_in, if_pos he, r_b1, if_neg (by decide), u1, r_b1, if_pos rfl, t70, t71, h85, h85, gM.2.2.2.2.1, gM.2.2.2.2.2.1, m_canBe_all E (by omega) st hst, r_b1]
        by_cases q : mC E st = true
        · rw [if_pos q, if_neg (by decide), if_pos q]
        · rw [if_neg q, if_pos rfl, if_neg q]
      by_cases q : mC E st = true
      · rw [if_pos q] at w7
        obtain ⟨T, C, p1, hT10, p2, hC, p33⟩ := past_TC h.2.2.2.1
        obtain ⟨p, hp, ep, hf⟩ := GN_place gN
        refine st_1 ?_
        unfold f_X7_event
        refine wp_e1 w7 (wp_e2 (r_refused 0 I) (wp_t rfl ?_))
        refine wp_c1 (C_keep (I := r_R7 I 0) p1 hT10 p2 hC) (fun A hA => ?_)
        obtain ⟨kg, ko⟩ := kp_game hT10 hA.1
        have gCA : GC A 23 c s d f sl ti CH O b fc st n w := GC_same kg gC
        have gTA : c_T A s d f := c_T_fr (fun i => ko 13 i (by omega)) (fun i => ko 14 i (by omega)) gT
        refine wp_c2 (C_happen (by decide) gN gCA gTA hp ep hf (by omega) q (by omega)) (fun r I1 hr => wp_some ?_)
        obtain ⟨r1, r2, r3, r4, r5, r6, r7⟩ := hr
        have i1o : ∀ a i, a ≠ 23 → a ≠ 27 → I1 a i = A a i := fun a i x y => r2 a i (fun z => by rcases z with z | z <;> omega)
        have i85 : ∀ i, I1 85 i = I 85 i := fun i => (i1o 85 i (by decide) (by decide)).trans (ko 85 i (by omega))
        have i83 : ∀ i, I1 83 i = I 83 i := fun i => (i1o 83 i (by decide) (by decide)).trans (ko 83 i (by omega))
        show wp (f_X8_event (nI E) I1) _
        rw [w8 I1 (i83 6) i85, if_pos q]
        unfold f_X8_event_61
        refine wp_e2 (r_isRefused 0 I1) (wp_t rfl ?_)
        refine wp_c1 (M_rem (I := r_R8 I1 0) hC ((i83 33).trans p33)) (fun B hB => ?_)
        have b85 : ∀ i, B 85 i = I 85 i := fun i => (hB.1 85 i (fun z => by rcases z with z | z <;> omega)).trans (i85 i)
        have gMB : GM B c s d f sl ti CH O b fc st n := GM_same b85 gM
        refine wp_c2 (M_happen (e := E) gN gMB hp ep hf (by omega) (by omega)) (fun r' I2 hm => wp_some ?_)
        obtain ⟨m1, m2, m3, m4, m5, m6, m7⟩ := hm
        have i2B : ∀ a i, r_live a i = true → a ≠ 85 → I2 a i = B a i := fun a i l na => m2 a i (fun z => by
          rcases z with z | z
          · exact na z.1
          · obtain ⟨rfl, z1, z2⟩ := z
            have c : i = 19 ∨ i = 20 ∨ i = 21 := by omega
            rcases c with rfl | rfl | rfl
            · cases (show false = true from l)
            · cases (show false = true from l)
            · cases (show false = true from l))
        refine ⟨(show r' = _ from m1).trans (show r = _ from r1).symm, ?_⟩
        have a11 : ∀ i, A 23 i = I 23 i := fun i => kg 23 i (by decide) (by decide)
        have a27 : ∀ i, A 27 i = I 27 i := fun i => kg 27 i (by decide) (by decide)
        have g2' : G2 A B 23 n w := G2_same a11 a27 b85 g2
        refine Rl_act2 h hx0 ht p1 hT10 p2 hC hA (fun a i _ z _ _ => i1o a i (by omega) (by omega)) hB i2B (GN_happen gN hp (show E < 9 by omega)) r3 m3 (G2_happen gN g2' (by omega) r4 r5 r6 r7 m4 m5 m6 m7) (c_T_fr (fun i => i1o 13 i (by decide) (by decide)) (fun i => i1o 14 i (by decide) (by decide)) gTA) ?_ ?_ ?_ h.2.2.2.2.1.2
        · unfold hF
          by_cases y : E ≤ 6
          · rw [if_pos y]
            omega
          · rw [if_neg y]
            omega
        · exact (m2 85 0 (fun z => by unfold hpF at z; omega)).trans (b85 0)
        · have e1 : I2 11 5 = B 11 5 := m2 11 5 (fun z => by unfold hpF at z; omega)
          have e2 : B 11 5 = I1 11 5 := hB.1 11 5 (fun z => by rcases z with z | z <;> omega)
          show I2 11 5 = 0
          rw [e1, e2, i1o 11 5 (by decide) (by decide), ko 11 5 (by omega)]
          exact h.2.2.2.2.1.1
      · rw [if_neg q] at w7
        refine bad 5 (by decide) (by decide) w7 ?_
        rw [w8 (r_R7 I 5) rfl (fun i => rfl), if_neg q]
    · refine bad 1 (by decide) (by decide) ?_ ?_
      · unfold f_X7_troubleOfEvent f_X7_troubleOfEvent_17
        rw [hx, r_b1, if_neg hx0, r_within, if_neg he, r_b1, if_neg (fun n => n rfl)]
      · unfold f_X8_event f_X8_event_21 f_X8_event_22
        rw [if_neg (show ¬ r_R7 I 1 83 6 = 0 from hx0), r_in, if_neg he, r_b1, if_pos rfl, r_unless, r_b1, if_pos rfl, if_neg (by decide)]
