-- FEED
theorem Rl_tell {t : Nat} {I J : e_I} {L : e_L} (h : Rl t I L) (hf : ∀ a i, r_live a i = true → a ≠ 0 → a ≠ 1 → a ≠ 5 → a ≠ 84 → (a = 83 → i = 6 ∨ i = 33) → J a i = I a i) (h11 : J 11 5 = 0) (hT : r_told J) (hP : r_tape J) : Rl t J L := by
  obtain ⟨h1, h2, h3, h4, h5, h6, h7, h8⟩ := h
  have c8 : J 8 = I 8 := funext fun i => hf 8 i rfl (by decide) (by decide) (by decide) (by decide) (fun z => by cases z)
  have c13 : J 13 = I 13 := funext fun i => hf 13 i rfl (by decide) (by decide) (by decide) (by decide) (fun z => by cases z)
  have c14 : J 14 = I 14 := funext fun i => hf 14 i rfl (by decide) (by decide) (by decide) (by decide) (fun z => by cases z)
  have c85 : J 85 = I 85 := funext fun i => hf 85 i rfl (by decide) (by decide) (by decide) (by decide) (fun z => by cases z)
  have c87 : J 87 = I 87 := funext fun i => hf 87 i rfl (by decide) (by decide) (by decide) (by decide) (fun z => by cases z)
  have c96 : J 96 = I 96 := funext fun i => hf 96 i rfl (by decide) (by decide) (by decide) (by decide) (fun z => by cases z)
  have c23 : J 23 = I 23 := funext fun i => hf 23 i rfl (by decide) (by decide) (by decide) (by decide) (fun z => by cases z)
  have c24 : J 24 = I 24 := funext fun i => hf 24 i rfl (by decide) (by decide) (by decide) (by decide) (fun z => by cases z)
  have c25 : J 25 = I 25 := funext fun i => hf 25 i rfl (by decide) (by decide) (by decide) (by decide) (fun z => by cases z)
  have c26 : J 26 = I 26 := funext fun i => hf 26 i rfl (by decide) (by decide) (by decide) (by decide) (fun z => by cases z)
  have c27 : J 27 = I 27 := funext fun i => hf 27 i rfl (by decide) (by decide) (by decide) (by decide) (fun z => by cases z)
  have e6 : J 83 6 = I 83 6 := hf 83 6 rfl (by decide) (by decide) (by decide) (by decide) (fun _ => Or.inl rfl)
  have e33 : J 83 33 = I 83 33 := hf 83 33 rfl (by decide) (by decide) (by decide) (by decide) (fun _ => Or.inr rfl)
  have e91 : J 9 1 = I 9 1 := hf 9 1 rfl (by decide) (by decide) (by decide) (by decide) (fun z => by cases z)
  have e92 : J 9 2 = I 9 2 := hf 9 2 rfl (by decide) (by decide) (by decide) (by decide) (fun z => by cases z)
  have cc : ∀ a, 33 ≤ a → a ≤ 82 → J a = I a := fun a x y => funext fun i => hf a i (r_live_g x y) (by omega) (by omega) (by omega) (by omega) (fun z => by omega)
  refine ⟨hT, hP, ?_, ?_, ⟨h11, h5.2⟩, ?_, by rw [e6, c23]; exact h7, r_cnt_of e91 e92 (fun a x y => congrFun (cc a x y) 0) (congrFun c85 0) h8⟩
  · unfold r_text
    rw [e6, c23, c24, c25, c26, c27, c85]
    exact h3
  · obtain ⟨g1, g2⟩ := h4
    refine ⟨by rw [e92, e91, e33]; exact g1, fun j hj g hgg => ?_⟩
    rw [e92] at hj
    rw [e91] at hgg
    have k := g2 j hj g hgg
    have hm : (r_n (I 9 1) + 9 - j) % 10 < 10 := Nat.mod_lt _ (by decide)
    rw [cc g (by omega) (by omega), cc (g + 1) (by omega) (by omega), cc (g + 2) (by omega) (by omega), cc (g + 3) (by omega) (by omega), cc (g + 4) (by omega) (by omega), c96, e92]
    exact k
  · rw [e6]
    intro n
    obtain ⟨a, b⟩ := h6 n
    refine ⟨?_, ?_⟩
    · rw [c25]
      unfold c_T
      rw [c13, c14]
      exact a
    · rw [c85, c8, c87]
      exact b
def Bt (v s : Int32) : Int32 := (v >>> (s &&& 31)).toInt8.toInt32
theorem nar_b (y : Int8) : vp_nar .byte y.toInt32 = y.toInt32 := by
  show (y.toInt32.toInt8).toInt32 = y.toInt32
  rw [Int8.toInt8_toInt32]
theorem by8_t (y : Int8) : y.toInt32 = y.toInt32.toInt8.toInt32 := by rw [Int8.toInt8_toInt32]
theorem t8_255 (z : Int32) : z.toInt8.toInt32 &&& 255 = z &&& 255 := by
  apply Int32.toBitVec_inj.mp
  apply BitVec.eq_of_getLsbD_eq
  intro i hi
  rw [Int32.toBitVec_and, Int32.toBitVec_and, BitVec.getLsbD_and, BitVec.getLsbD_and]
  by_cases h8 : i < 8
  · congr 1
    show (BitVec.signExtend 32 (BitVec.signExtend 8 z.toBitVec)).getLsbD i = z.toBitVec.getLsbD i
    simp [BitVec.getLsbD_signExtend, BitVec.getElem_signExtend, h8, hi]
  · have k : ∀ j, j < 32 → ¬ j < 8 → (255 : Int32).toBitVec.getLsbD j = false := by decide
    rw [k i hi h8, Bool.and_false, Bool.and_false]
theorem put1 {v sh : Int32} {n m : Nat} {I : e_I} {k46 : e_I → Option e_I} (h3 : I 1 3 = nI n) (hn : n < 500) (hs : ¬ sh < 0) : f_X6_put_3 v k46 (m + 1) sh I = f_X6_put_3 v k46 m (sh + (-8)) (e_ui (e_ui I 5 n (Bt v sh)) 1 3 (nI (n + 1))) := by
  have g : ¬ nI n ≥ 500 := c_ge (N := 500) hn (by decide)
  have ix : e_ix (nI n) 500 = true := nI_ix hn (by omega)
  rw [f_X6_put_3, if_neg hs, h3, if_neg g]
  unfold e_as
  rw [if_pos ix, nar_b, let_eq, let_eq, let_eq, (ui_a (by decide) : e_ui I 5 (nI n).toNatClampNeg ((v >>> (sh &&& 31)).toInt8.toInt32) 1 3 = I 1 3), h3, nI_1 n, nI_clamp (n := n) (by omega)]
  rfl
def TP (n : Nat) (I J : e_I) : Prop := I 1 3 = nI n ∧ J 83 5 = nI n ∧ ∀ i, i < n → J 84 i = I 5 i &&& 255 ∧ I 5 i = (I 5 i).toInt8.toInt32
def fF (a x : Nat) : Prop := (a = 1 ∧ x = 3) ∨ a = 5
def fG (a x : Nat) : Prop := (a = 83 ∧ x = 5) ∨ a = 84
theorem C_put {v : Int32} {n : Nat} {I : e_I} (h3 : I 1 3 = nI n) (hn : n + 4 ≤ 500) : ∃ J, f_X6_put v I = some J ∧ fr fF I J ∧ J 1 3 = nI (n + 4) ∧ (∀ i, i < n → J 5 i = I 5 i) ∧ J 5 n = Bt v 24 ∧ J 5 (n + 1) = Bt v 16 ∧ J 5 (n + 2) = Bt v 8 ∧ J 5 (n + 3) = Bt v 0 := by
  have go : ∀ m, f_X6_put_3 v (fun (I_1 : e_I) => some I_1) (m + 5) 24 I = some (e_ui (e_ui (e_ui (e_ui (e_ui (e_ui (e_ui (e_ui I 5 n (Bt v 24)) 1 3 (nI (n + 1))) 5 (n + 1) (Bt v 16)) 1 3 (nI (n + 1 + 1))) 5 (n + 1 + 1) (Bt v 8)) 1 3 (nI (n + 1 + 1 + 1))) 5 (n + 1 + 1 + 1) (Bt v 0)) 1 3 (nI (n + 1 + 1 + 1 + 1))) := fun m => by
    have s1 : (24 : Int32) + (-8) = 16 := by decide
    have s2 : (16 : Int32) + (-8) = 8 := by decide
    have s3 : (8 : Int32) + (-8) = 0 := by decide
    have s4 : (0 : Int32) + (-8) = -8 := by decide
    rw [put1 h3 (by omega) (by decide), s1, put1 ui_s (by omega) (by decide), s2, put1 ui_s (by omega) (by decide), s3, put1 ui_s (by omega) (by decide), s4, f_X6_put_3, if_pos (by decide)]
  obtain ⟨m, hm⟩ : ∃ m, e_FU = m + 5 := ⟨e_FU - 5, (Nat.sub_add_cancel (Nat.le_of_lt (wp_FU (n := 5) (by decide)))).symm⟩
  have g := go m
  rw [← hm] at g
  have g : f_X6_put v I = _ := g
  refine ⟨_, g, ?_, ui_s, fun i hi => ?_, ?_, ?_, ?_, ?_⟩
  · exact fr_tr (fr_tr (fr_tr (fr_tr (fr_tr (fr_tr (fr_tr (fr_ui (Or.inr rfl)) (fr_ui (Or.inl ⟨rfl, rfl⟩))) (fr_ui (Or.inr rfl))) (fr_ui (Or.inl ⟨rfl, rfl⟩))) (fr_ui (Or.inr rfl))) (fr_ui (Or.inl ⟨rfl, rfl⟩))) (fr_ui (Or.inr rfl))) (fr_ui (Or.inl ⟨rfl, rfl⟩))
  · rw [ui_a (by decide), ui_i (by omega), ui_a (by decide), ui_i (by omega), ui_a (by decide), ui_i (by omega), ui_a (by decide), ui_i (by omega)]
  · rw [ui_a (by decide), ui_i (by omega), ui_a (by decide), ui_i (by omega), ui_a (by decide), ui_i (by omega), ui_a (by decide), ui_s]
  · rw [ui_a (by decide), ui_i (by omega), ui_a (by decide), ui_i (by omega), ui_a (by decide), ui_s]
  · rw [ui_a (by decide), ui_i (by omega), ui_a (by decide)]
    exact ui_s
  · rw [ui_a (by decide)]
    exact ui_s
theorem lay1 {v : Int32} {n k m : Nat} {J : e_I} {k37 : e_I → Option e_I} (h5 : J 83 5 = nI n) (hn : n + 4 ≤ 500) (hk : k < 4) : f_X8_laysWord_2 v k37 (m + 1) (nI k) J = f_X8_laysWord_2 v k37 m (nI (k + 1)) (e_ui J 84 (n + k) ((v >>> (nI (24 - 8 * k) &&& 31)) &&& 255)) := by
  have g : ¬ nI k ≥ 4 := c_ge (N := 4) hk (by decide)
  have ix : e_ix (nI (n + k)) 500 = true := nI_ix (by omega) (by omega)
  have s : (24 : Int32) - (8 : Int32) * nI k = nI (24 - 8 * k) := by
    have a : (8 : Int32) * nI k = nI (8 * k) := nI_mul 8 k
    have b : nI 24 - nI (8 * k) = nI (24 - 8 * k) := nI_sub (by omega)
    rw [a]
    exact b
  rw [f_X8_laysWord_2, if_neg g, h5, nI_add, s]
  unfold e_as
  rw [if_pos ix, let_eq, let_eq, nI_1 k, nI_clamp (n := n + k) (by omega)]
theorem M_lw {v : Int32} {n : Nat} {J : e_I} (h5 : J 83 5 = nI n) (hn : n + 4 ≤ 500) : ∃ K, f_X8_laysWord v J = some K ∧ fr fG J K ∧ K 83 5 = nI (n + 4) ∧ (∀ i, i < n → K 84 i = J 84 i) ∧ K 84 n = Bt v 24 &&& 255 ∧ K 84 (n + 1) = Bt v 16 &&& 255 ∧ K 84 (n + 2) = Bt v 8 &&& 255 ∧ K 84 (n + 3) = Bt v 0 &&& 255 := by
  have a24 : (v >>> (nI (24 - 8 * 0) &&& 31)) &&& 255 = Bt v 24 &&& 255 := (t8_255 _).symm
  have a16 : (v >>> (nI (24 - 8 * 1) &&& 31)) &&& 255 = Bt v 16 &&& 255 := (t8_255 _).symm
  have a8 : (v >>> (nI (24 - 8 * 2) &&& 31)) &&& 255 = Bt v 8 &&& 255 := (t8_255 _).symm
  have a0 : (v >>> (nI (24 - 8 * 3) &&& 31)) &&& 255 = Bt v 0 &&& 255 := (t8_255 _).symm
  have go : ∀ m, f_X8_laysWord_2 v (fun (I_1 : e_I) => e_let (e_ui I_1 83 5 ((I_1 83 5) + 4)) (fun (I_2 : e_I) => some I_2)) (m + 5) (nI 0) J = some (e_ui (e_ui (e_ui (e_ui (e_ui J 84 (n + 0) (Bt v 24 &&& 255)) 84 (n + 1) (Bt v 16 &&& 255)) 84 (n + 2) (Bt v 8 &&& 255)) 84 (n + 3) (Bt v 0 &&& 255)) 83 5 (nI (n + 4))) := fun m => by
    have f : nI n + 4 = nI (n + 4) := nI_add n 4
    rw [lay1 h5 hn (by decide), a24, lay1 ((ui_a (by decide)).trans h5) hn (by decide), a16, lay1 ((ui_a (by decide)).trans ((ui_a (by decide)).trans h5)) hn (by decide), a8, lay1 ((ui_a (by decide)).trans ((ui_a (by decide)).trans ((ui_a (by decide)).trans h5))) hn (by decide), a0, f_X8_laysWord_2, if_pos (by decide), let_eq, ui_a (by decide), ui_a (by decide), ui_a (by decide), ui_a (by decide), h5, f]
  obtain ⟨m, hm⟩ : ∃ m, e_FU = m + 5 := ⟨e_FU - 5, (Nat.sub_add_cancel (Nat.le_of_lt (wp_FU (n := 5) (by decide)))).symm⟩
  have g := go m
  rw [← hm] at g
  have g : f_X8_laysWord v J = _ := g
  refine ⟨_, g, ?_, ui_s, fun i hi => ?_, ?_, ?_, ?_, ?_⟩
  · exact fr_tr (fr_tr (fr_tr (fr_tr (fr_ui (Or.inr rfl)) (fr_ui (Or.inr rfl))) (fr_ui (Or.inr rfl))) (fr_ui (Or.inr rfl))) (fr_ui (Or.inl ⟨rfl, rfl⟩))
  · rw [ui_a (by decide), ui_i (by omega), ui_i (by omega), ui_i (by omega), ui_i (by omega)]
  · rw [ui_a (by decide), ui_i (by omega), ui_i (by omega), ui_i (by omega)]
    exact ui_s
  · rw [ui_a (by decide), ui_i (by omega), ui_i (by omega), ui_s]
  · rw [ui_a (by decide), ui_i (by omega), ui_s]
  · rw [ui_a (by decide), ui_s]
theorem S_put {v : Int32} {n : Nat} {I J : e_I} (h : TP n I J) (hn : n + 4 ≤ 500) : ∃ I' J', f_X6_put v I = some I' ∧ f_X8_laysWord v J = some J' ∧ TP (n + 4) I' J' ∧ fr fF I I' ∧ fr fG J J' := by
  obtain ⟨a, b, c⟩ := h
  obtain ⟨I', e1', f1, f2, f3, f4, f5, f6, f7⟩ := C_put (v := v) a hn
  obtain ⟨J', e2', g1, g2, g3, g4, g5, g6, g7⟩ := M_lw (v := v) b hn
  refine ⟨I', J', e1', e2', ⟨f2, g2, fun i hi => ?_⟩, f1, g1⟩
  have cs : i < n ∨ i = n ∨ i = n + 1 ∨ i = n + 2 ∨ i = n + 3 := by omega
  rcases cs with z | rfl | rfl | rfl | rfl
  · rw [f3 i z, g3 i z]
    exact c i z
  · rw [f4, g4]
    exact ⟨rfl, by8_t _⟩
  · rw [f5, g5]
    exact ⟨rfl, by8_t _⟩
  · rw [f6, g6]
    exact ⟨rfl, by8_t _⟩
  · rw [f7, g7]
    exact ⟨rfl, by8_t _⟩
theorem S_feed {v1 v2 v3 v4 v5 : Int32} {n : Nat} {I J0 : e_I} (h : TP n I (e_ui J0 83 0 0)) (hn : n + 20 ≤ 500) : ∃ I5 J5, f_X7_feed v1 v2 v3 v4 v5 I = some (nI (n + 20), I5) ∧ f_X8_feed v1 v2 v3 v4 v5 J0 = some (nI (n + 20), J5) ∧ TP (n + 20) I5 J5 ∧ fr fF I I5 ∧ fr fG (e_ui J0 83 0 0) J5 := by
  obtain ⟨I1, J1, a1, b1, t1, x1, y1⟩ := S_put (v := v1) h (by omega)
  obtain ⟨I2, J2, a2, b2, t2, x2, y2⟩ := S_put (v := v2) t1 (by omega)
  obtain ⟨I3, J3, a3, b3, t3, x3, y3⟩ := S_put (v := v3) t2 (by omega)
  obtain ⟨I4, J4, a4, b4, t4, x4, y4⟩ := S_put (v := v4) t3 (by omega)
  obtain ⟨I5, J5, a5, b5, t5, x5, y5⟩ := S_put (v := v5) t4 (by omega)
  have c7 : (I 1 3) + 20 ≤ 500 := by
    have e : nI n + 20 = nI (n + 20) := nI_add n 20
    rw [h.1, e]
    exact nI_le (b := 500) hn (by decide)
  have c8 : e_ui J0 83 0 0 83 5 ≤ 480 := by
    rw [h.2.1]
    exact nI_le (b := 480) (by omega) (by decide)
  refine ⟨I5, J5, ?_, ?_, t5, fr_tr (fr_tr (fr_tr (fr_tr x1 x2) x3) x4) x5, fr_tr (fr_tr (fr_tr (fr_tr y1 y2) y3) y4) y5⟩
  · unfold f_X7_feed
    rw [if_pos c7, a1, r_b1, a2, r_b1, a3, r_b1, a4, r_b1, a5, r_b1, t5.1]
  · unfold f_X8_feed
    rw [let_eq, if_pos c8, b1, r_b1, b2, r_b1, b3, r_b1, b4, r_b1, b5, r_b1, t5.2.1]
theorem T_feed (t : Nat) (ht : t < 600) : ST_feed (Rl t) (Rl (t + 1)) := by
  intro v1 v2 v3 v4 v5 I L h
  obtain ⟨⟨s1, s2, s3⟩, tb, keys⟩ := h.2.1
  obtain ⟨e, hn⟩ := nI_rn (n := 500) s2 s3 rfl
  have e83 : I 83 5 = nI (r_n (I 1 3)) := s1.symm.trans e
  generalize r_n (I 1 3) = n at e hn tb e83
  by_cases q : n + 20 ≤ 500
  · have tp : ∀ J0 : e_I, J0 83 5 = I 83 5 → (∀ i, J0 84 i = I 84 i) → TP n I (e_ui J0 83 0 0) := fun J0 h5 h84 => ⟨e, ((ui_i (by decide)).trans h5).trans e83, fun i hi => ⟨((ui_a (by decide)).trans (h84 i)).trans (tb i hi).1, (tb i hi).2⟩⟩
    obtain ⟨I1, _, a1, _, t1, x1, _⟩ := S_feed (v1 := v1) (v2 := v2) (v3 := v3) (v4 := v4) (v5 := v5) (tp I rfl (fun _ => rfl)) q
    have o1 : ∀ a i, ¬ fF a i → I1 a i = I a i := x1
    obtain ⟨I1', J5, a1', b1, t2, _, y2⟩ := S_feed (v1 := v1) (v2 := v2) (v3 := v3) (v4 := v4) (v5 := v5) (tp I1 (o1 83 5 (fun z => by rcases z with z | z <;> omega)) (fun i => o1 84 i (fun z => by rcases z with z | z <;> omega))) q
    have ee := a1.symm.trans a1'
    injection ee with ee
    injection ee with _ ei
    subst ei
    have oJ : ∀ a i, ¬ fF a i → ¬ fG a i → ¬ (a = 83 ∧ i = 0) → J5 a i = I a i := fun a i x y z => by
      rw [y2 a i y]
      by_cases w : a = 83
      · subst w
        rw [ui_i (fun w => z ⟨rfl, w⟩)]
        exact o1 83 i x
      · rw [ui_a w]
        exact o1 a i x
    have oI : ∀ a i, a ≠ 83 → a ≠ 84 → J5 a i = I1 a i := fun a i x y => (y2 a i (fun z => by rcases z with z | z <;> omega)).trans (ui_a x)
    refine ⟨nI (n + 20), I1, J5, a1, b1, Rl_mono (Nat.le_succ t) (Rl_tell h (fun a i l n0 n1 n5 n84 n83 => oJ a i (fun z => by rcases z with z | z <;> omega) (fun z => by
      rcases z with z | z
      · have := n83 z.1
        omega
      · exact n84 z) (fun z => by
      have := n83 z.1
      omega)) ?_ ?_ ?_)⟩
    · exact (oJ 11 5 (fun z => by rcases z with z | z <;> omega) (fun z => by rcases z with z | z <;> omega) (fun z => by omega)).trans h.2.2.2.2.1.1
    · have w : ∀ a i, (a = 0 ∨ (a = 83 ∧ (i = 1 ∨ i = 2 ∨ i = 3))) → J5 a i = I a i := fun a i x => oJ a i (fun z => by rcases z with z | z <;> omega) (fun z => by rcases z with z | z <;> omega) (fun z => by omega)
      unfold r_told
      rw [w 0 8 (by omega), w 0 9 (by omega), w 0 10 (by omega), w 83 1 (by omega), w 83 2 (by omega), w 83 3 (by omega)]
      exact h.1
    · have z3 : J5 1 3 = nI (n + 20) := (oI 1 3 (by decide) (by decide)).trans t2.1
      refine ⟨⟨z3.trans t2.2.1.symm, ?_, ?_⟩, fun i hi => ?_, fun i hi => (oJ 6 i (fun z => by rcases z with z | z <;> omega) (fun z => by rcases z with z | z <;> omega) (fun z => by omega)).trans (keys i hi)⟩
      · rw [z3]
        exact nI_le (a := 0) (Nat.zero_le _) (by omega)
      · rw [z3]
        exact nI_le (b := 500) q (by decide)
      · rw [z3, nI_r (by omega)] at hi
        rw [oI 5 i (by decide) (by decide)]
        exact t2.2.2 i hi
  · have c7 : ¬ (I 1 3) + 20 ≤ 500 := by
      have e2 : nI n + 20 = nI (n + 20) := nI_add n 20
      rw [e, e2]
      exact nI_ge (a := 500) (by omega) (by omega)
    have c8 : ¬ e_ui I 83 0 0 83 5 ≤ 480 := by
      rw [(ui_i (by decide) : e_ui I 83 0 0 83 5 = I 83 5), e83]
      exact nI_ge (a := 480) (by omega) (by omega)
    refine ⟨-1, I, e_ui I 83 0 0, ?_, ?_, Rl_mono (Nat.le_succ t) (Rl_keep h (fun a i l => ?_) h.2.2.2.2.1.1 h.2.2.2.2.1.2)⟩
    · unfold f_X7_feed
      rw [if_neg c7]
    · unfold f_X8_feed
      rw [let_eq, if_neg c8]
    · by_cases w : a = 83
      · subst w
        exact ui_i (fun w => by
          subst w
          cases (show false = true from l))
      · exact ui_a w
