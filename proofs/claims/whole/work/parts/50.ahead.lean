-- THE CALLS that look ahead
def tA (tx w b o k : Int32) : Int32 := if tx = 0 then 1 else if w = 0 then 1 else if 0 ≤ b ∧ b ≤ 7 then (if 0 ≤ o ∧ o ≤ 2 then (if 1 ≤ k ∧ k ≤ 5 then 0 else 2) else 2) else 2
theorem t_state7 {b o : Int32} : f_X7_isState b o = some (if 0 ≤ b ∧ b ≤ 7 then (if 0 ≤ o ∧ o ≤ 2 then 1 else 0) else 0) := by
  unfold f_X7_isState f_X7_isState_23 f_X7_isState_24 e_as
  rw [r_within, r_b1]
  by_cases h : 0 ≤ b ∧ b ≤ 7
  · rw [if_pos h, if_neg (by decide), r_within, r_b1, if_pos h]
    by_cases k : 0 ≤ o ∧ o ≤ 2
    · rw [if_pos k, if_neg (by decide)]
      rfl
    · rw [if_neg k, if_pos rfl]
      rfl
  · rw [if_neg h, if_pos rfl, if_neg h]
    rfl
theorem t_state8 {b o : Int32} : f_X8_isState b o = some (if 0 ≤ b ∧ b ≤ 7 then (if 0 ≤ o ∧ o ≤ 2 then 1 else 0) else 0) := by
  unfold f_X8_isState f_X8_isState_23 f_X8_isState_24 e_as
  rw [r_in, r_b1]
  by_cases h : 0 ≤ b ∧ b ≤ 7
  · rw [if_pos h, if_neg (by decide), r_in, r_b1, if_pos h]
    by_cases k : 0 ≤ o ∧ o ≤ 2
    · rw [if_pos k, if_neg (by decide)]
      rfl
    · rw [if_neg k, if_pos rfl]
      rfl
  · rw [if_neg h, if_pos rfl, if_neg h]
    rfl
theorem t_b {c : Prop} [Decidable c] : ((if c then 1 else 0 : Int32) = 0 ∨ (if c then 1 else 0 : Int32) = 1) := by
  by_cases h : c
  · rw [if_pos h]
    exact Or.inr rfl
  · rw [if_neg h]
    exact Or.inl rfl
theorem t_part {w : Int32} : f_X7_isPart w = some (if 0 ≤ w ∧ w ≤ 1 then 1 else 0) := by
  unfold f_X7_isPart e_as
  rw [r_within, r_b1, if_pos t_b]
theorem t_depth {k : Int32} : f_X7_isDepth k = some (if 1 ≤ k ∧ k ≤ 5 then 1 else 0) := by
  unfold f_X7_isDepth e_as
  rw [r_within, r_b1, if_pos t_b]
theorem t_hit {e : Int32} : f_X7_isHit e = some (if 0 ≤ e ∧ e ≤ 5 then 1 else 0) := by
  unfold f_X7_isHit e_as
  rw [r_within, r_b1, if_pos t_b]
theorem t_ahead7 {I : e_I} {w b o k : Int32} (hx : f_X7_hasText I = some (I 83 6)) : f_X7_troubleAhead w b o k I = some (tA (I 83 6) w b o k) := by
  unfold f_X7_troubleAhead f_X7_troubleAhead_11 f_X7_troubleAhead_33 f_X7_troubleAhead_34 tA
  rw [hx, r_b1]
  by_cases h1 : I 83 6 = 0
  · rw [if_pos h1, if_pos h1]
  · rw [if_neg h1, if_neg h1]
    by_cases h2 : w = 0
    · rw [if_neg (fun n => n h2), if_pos h2]
    · rw [if_pos h2, if_neg h2, t_state7, r_b1, t_depth]
      by_cases h3 : 0 ≤ b ∧ b ≤ 7
      · rw [if_pos h3, if_pos h3]
        by_cases h4 : 0 ≤ o ∧ o ≤ 2
        · rw [if_pos h4, if_pos h4, if_neg (by decide), r_b1]
          by_cases h5 : 1 ≤ k ∧ k ≤ 5
          · rw [if_pos h5, if_pos h5]
            rfl
          · rw [if_neg h5, if_neg h5]
            rfl
        · rw [if_neg h4, if_neg h4]
          rfl
      · rw [if_neg h3, if_neg h3]
        rfl
theorem t_ahead8 {I : e_I} {w b o k : Int32} : f_X8_whyNot w b o k I = some (tA (I 83 6) w b o k) := by
  have h16 : ∀ s : Int32, f_X8_whyNot_16 I b o k s = some (if s = 0 then 1 else if 0 ≤ b ∧ b ≤ 7 then (if 0 ≤ o ∧ o ≤ 2 then (if 1 ≤ k ∧ k ≤ 5 then 0 else 2) else 2) else 2) := fun s => by
    unfold f_X8_whyNot_16 f_X8_whyNot_38 f_X8_whyNot_39
    rw [t_state8, r_b1, r_in, r_unless_]
    by_cases h3 : 0 ≤ b ∧ b ≤ 7
    · rw [if_pos h3, if_pos h3]
      by_cases h4 : 0 ≤ o ∧ o ≤ 2
      · rw [if_pos h4, if_pos h4, if_neg (by decide), r_b1]
        by_cases h5 : 1 ≤ k ∧ k ≤ 5
        · rw [if_pos h5, if_pos h5, if_neg (by decide), r_unless_]
          rfl
        · rw [if_neg h5, if_neg h5]
          rfl
      · rw [if_neg h4, if_neg h4]
        rfl
    · rw [if_neg h3, if_neg h3]
      rfl
  unfold f_X8_whyNot f_X8_whyNot_15 tA
  by_cases h1 : I 83 6 = 0
  · rw [if_pos h1, if_pos h1, h16]
    rfl
  · rw [if_neg h1, if_neg h1]
    by_cases h2 : w = 0
    · rw [if_pos h2, if_pos h2, h16]
      rfl
    · rw [if_neg h2, if_neg h2, h16]
      rfl
theorem tA_0 {tx w b o k : Int32} (h : tA tx w b o k = 0) : tx ≠ 0 ∧ w ≠ 0 ∧ (0 ≤ b ∧ b ≤ 7) ∧ (0 ≤ o ∧ o ≤ 2) ∧ (1 ≤ k ∧ k ≤ 5) := by
  unfold tA at h
  by_cases h1 : tx = 0
  · rw [if_pos h1] at h
    exact absurd h (by decide)
  · rw [if_neg h1] at h
    by_cases h2 : w = 0
    · rw [if_pos h2] at h
      exact absurd h (by decide)
    · rw [if_neg h2] at h
      by_cases h3 : 0 ≤ b ∧ b ≤ 7
      · rw [if_pos h3] at h
        by_cases h4 : 0 ≤ o ∧ o ≤ 2
        · rw [if_pos h4] at h
          by_cases h5 : 1 ≤ k ∧ k ≤ 5
          · exact ⟨h1, h2, h3, h4, h5⟩
          · rw [if_neg h5] at h
            exact absurd h (by decide)
        · rw [if_neg h4] at h
          exact absurd h (by decide)
      · rw [if_neg h3] at h
        exact absurd h (by decide)
theorem tA_4 {tx w b o k : Int32} : tA tx w b o k ≠ 4 := by
  unfold tA
  by_cases h1 : tx = 0
  · rw [if_pos h1]
    decide
  · rw [if_neg h1]
    by_cases h2 : w = 0
    · rw [if_pos h2]
      decide
    · rw [if_neg h2]
      by_cases h3 : 0 ≤ b ∧ b ≤ 7
      · rw [if_pos h3]
        by_cases h4 : 0 ≤ o ∧ o ≤ 2
        · rw [if_pos h4]
          by_cases h5 : 1 ≤ k ∧ k ≤ 5
          · rw [if_pos h5]
            decide
          · rw [if_neg h5]
            decide
        · rw [if_neg h4]
          decide
      · rw [if_neg h3]
        decide
theorem r_b_n {v : Int32} (h : v ≠ 0) : r_b v = 1 := if_neg h
theorem r_b_0 : r_b 0 = 0 := rfl
theorem nI_btw {a b x : Int32} {m n : Nat} (hm : a.toInt = m) (hn : b.toInt = n) (h1 : a ≤ x) (h2 : x ≤ b) : ∃ j : Nat, m ≤ j ∧ j ≤ n ∧ x = nI j := by
  have k1 := Int32.le_iff_toInt_le.mp h1
  have k2 := Int32.le_iff_toInt_le.mp h2
  have k3 := Int32.toInt_lt b
  refine ⟨x.toInt.toNat, by omega, by omega, Int32.toInt_inj.mp ?_⟩
  rw [nI_toInt (by omega)]
  omega
-- scratch
def m_S4 (a i : Nat) : Prop := (a = 83 ∧ ((19 ≤ i ∧ i ≤ 21) ∨ i = 27)) ∨ a = 91 ∨ a = 92
theorem live_11 {a i : Nat} (l : r_live a i = true) : ¬ c_S11 a i := fun q => by
  rcases q with rfl | rfl
  · cases (show false = true from l)
  · cases (show false = true from l)
theorem live_S4 {a i : Nat} (l : r_live a i = true) : ¬ m_S4 a i := fun q => by
  rcases q with ⟨rfl, q⟩ | rfl | rfl
  · have c : i = 19 ∨ i = 20 ∨ i = 21 ∨ i = 27 := by omega
    rcases c with rfl | rfl | rfl | rfl
    · cases (show false = true from l)
    · cases (show false = true from l)
    · cases (show false = true from l)
    · cases (show false = true from l)
  · cases (show false = true from l)
  · cases (show false = true from l)
theorem c_Z_SL {L M : e_L} (h : frL m_SL L M) (hz : c_Z L) : c_Z M := by
  refine ⟨fun q hq => ?_, fun j hj => ?_, ?_⟩
  · rw [h 15 q (fun z => by rcases z with z | z | z <;> omega)]
    exact hz.1 q hq
  · rw [h 15 _ (fun z => by rcases z with z | z | z <;> omega)]
    exact hz.2.1 j hj
  · rw [h 18 24 (fun z => by rcases z with z | z | z <;> omega)]
    exact hz.2.2
theorem VW_same {I J : e_I} {c s d f sl ti b p fc st : Nat} {CH : Nat → Nat → Nat} {O : Nat → Nat} (hf : sameL I J) (h : VW I 23 c s d f sl ti CH O b p fc st) : VW J 23 c s d f sl ti CH O b p fc st := by
  obtain ⟨h1, h2, h3, h4, h5, ⟨h6a, h6b, h6⟩, ⟨h7a, h7b, h7⟩, ⟨h8a, h8b, h8c, h8d⟩, h9⟩ := h
  have c85 : ∀ i, J 85 i = I 85 i := fun i => hf 85 i rfl
  refine ⟨h1, CV_fr (fun i => hf 23 i rfl) (fun i => hf 24 i rfl) (fun i => hf 25 i rfl) (fun i => hf 26 i rfl) h2, MV_85 c85 h3, fun i hi => by rw [c85]; exact h4 i hi, h5, ⟨by rw [hf 23 4 rfl]; exact h6a, by rw [c85]; exact h6b, h6⟩, ⟨by rw [hf 23 5 rfl]; exact h7a, by rw [c85]; exact h7b, h7⟩, ⟨by rw [hf 23 2 rfl]; exact h8a, h8b, by rw [c85]; exact h8c, by rw [c85]; exact h8d⟩, c_T_fr (fun i => hf 13 i rfl) (fun i => hf 14 i rfl) h9⟩
theorem sameL_R7 {I : e_I} {v : Int32} : ∀ a i, r_live a i = true → a ≠ 0 → r_R7 I v a i = I a i := fun a i _ h => by
  unfold r_R7
  rw [ui_a h]
theorem VW_ui {I J : e_I} {c s d f sl ti b p fc st : Nat} {CH : Nat → Nat → Nat} {O : Nat → Nat} (hf : ∀ a i, r_live a i = true → a ≠ 0 → a ≠ 83 → J a i = I a i) (h : VW I 23 c s d f sl ti CH O b p fc st) : VW J 23 c s d f sl ti CH O b p fc st := by
  obtain ⟨h1, h2, h3, h4, h5, ⟨h6a, h6b, h6⟩, ⟨h7a, h7b, h7⟩, ⟨h8a, h8b, h8c, h8d⟩, h9⟩ := h
  have c85 : ∀ i, J 85 i = I 85 i := fun i => hf 85 i rfl (by decide) (by decide)
  refine ⟨h1, CV_fr (fun i => hf 23 i rfl (by decide) (by decide)) (fun i => hf 24 i rfl (by decide) (by decide)) (fun i => hf 25 i rfl (by decide) (by decide)) (fun i => hf 26 i rfl (by decide) (by decide)) h2, MV_85 c85 h3, fun i hi => by rw [c85]; exact h4 i hi, h5, ⟨by rw [hf 23 4 rfl (by decide) (by decide)]; exact h6a, by rw [c85]; exact h6b, h6⟩, ⟨by rw [hf 23 5 rfl (by decide) (by decide)]; exact h7a, by rw [c85]; exact h7b, h7⟩, ⟨by rw [hf 23 2 rfl (by decide) (by decide)]; exact h8a, h8b, by rw [c85]; exact h8c, by rw [c85]; exact h8d⟩, c_T_fr (fun i => hf 13 i rfl (by decide) (by decide)) (fun i => hf 14 i rfl (by decide) (by decide)) h9⟩
theorem VW_R7 {I : e_I} {v : Int32} {c s d f sl ti b p fc st : Nat} {CH : Nat → Nat → Nat} {O : Nat → Nat} (h : VW I 23 c s d f sl ti CH O b p fc st) : VW (r_R7 I v) 23 c s d f sl ti CH O b p fc st := VW_ui (fun a i l h0 _ => by unfold r_R7; rw [ui_a h0]) h
theorem VW_R8 {I : e_I} {v : Int32} {c s d f sl ti b p fc st : Nat} {CH : Nat → Nat → Nat} {O : Nat → Nat} (h : VW I 23 c s d f sl ti CH O b p fc st) : VW (r_R8 I v) 23 c s d f sl ti CH O b p fc st := VW_ui (fun a i l _ h0 => by unfold r_R8; rw [ui_a h0, ui_a h0, ui_a h0]) h
-- with a text there are numbers
theorem Rl_VW {t : Nat} {I : e_I} {L : e_L} (h : Rl t I L) (hx : I 83 6 ≠ 0) (ht : t ≤ 600) : ∃ c s d f sl ti CH O b p fc st, VW I 23 c s d f sl ti CH O b p fc st := by
  obtain ⟨h1, h2, h3, h4, h5, h6⟩ := h
  rcases h3 with h3 | h3
  · exact absurd h3.1 hx
  · obtain ⟨c, s, d, f, sl, ti, CH, O, b, p, fc, st, k, _⟩ := VW_of (g := 23) h3.2 (h6.1 hx).1 (by omega)
    exact ⟨c, s, d, f, sl, ti, CH, O, b, p, fc, st, k⟩
theorem VW_n {I : e_I} {g c s d f sl ti b p fc st : Nat} {CH : Nat → Nat → Nat} {O : Nat → Nat} (h : VW I g c s d f sl ti CH O b p fc st) : ∀ i, i < p → O i ≠ b := fun i hi e => by
  obtain ⟨_, _, _, _, h5, ⟨_, _, hp, ep⟩, _⟩ := h
  have := h5 i p (by omega) hp (by rw [e, ep])
  omega
theorem VW_OR {I : e_I} {g c s d f sl ti b p fc st : Nat} {CH : Nat → Nat → Nat} {O : Nat → Nat} (h : VW I g c s d f sl ti CH O b p fc st) : ∀ i, i < c → O i < c := fun i hi => (h.2.2.2.1 i hi).2
-- the model lays out what is to come now
theorem M_now {I : e_I} {L : e_L} {g c s d f sl ti b p fc st kd k : Nat} {CH : Nat → Nat → Nat} {O : Nat → Nat} (h : VW I g c s d f sl ti CH O b p fc st) (hk : kd < 4) (k1 : k ≤ 5) : wp (f_X8_laysNow (nI kd) (nI k) I L) (fun w => fr m_S4 I w.1 ∧ frL m_SL L w.2 ∧ w.1 83 27 = nI sl ∧ M_laid s d f c sl ti kd k p fc CH O k w.1 w.2) := by
  obtain ⟨h1, h2, h3, h4, h5, ⟨h6a, h6b, hp, ep⟩, ⟨h7a, h7b, h7⟩, h8, h9⟩ := id h
  have c9 := h1.1.2
  have hb : b < c := by rw [← ep]; exact (h4 p hp).2
  have f0 : fr m_S4 I (e_ui I 83 27 (I 85 (4 : Int32).toNatClampNeg)) := fr_ui (Or.inl ⟨rfl, Or.inr rfl⟩)
  have c85 : ∀ i, e_ui I 83 27 (I 85 (4 : Int32).toNatClampNeg) 85 i = I 85 i := fun i => ui_a (show (85 : Nat) ≠ 83 by decide)
  unfold f_X8_laysNow
  refine wp_let ?_
  have x72 : e_ui I 83 27 (I 85 (4 : Int32).toNatClampNeg) 85 (72 : Int32).toNatClampNeg = nI b := (c85 72).trans h6b
  have x73 : e_ui I 83 27 (I 85 (4 : Int32).toNatClampNeg) 85 (73 : Int32).toNatClampNeg = nI fc := (c85 73).trans h7b
  have x27 : e_ui I 83 27 (I 85 (4 : Int32).toNatClampNeg) 83 27 = nI sl := ui_s.trans h3.2.2.1
  rw [x72, x73]
  refine wp_e1 (M_placeOf (O := O) (c := c) (fun i hi => by rw [c85]; exact h4 i hi) c9 hp ep (by omega) (VW_n h)) ?_
  refine wp_c2 (M_out (at0 := 60) (OR := O) (MV_85 c85 h3) h1 (fun _ => x27) h1.2.2.1 (Or.inl rfl) (show 60 + c ≤ 396 by omega) (by decide) (fun i hi => by rw [c85]; exact h4 i hi) hk k1 (by omega) (by omega)) (fun J M hJ => wp_some ⟨?_, hJ.2.1, ?_, hJ.2.2⟩)
  · exact fr_tr f0 (fr_mono (fun a i z => by unfold m_S4; rcases z with z | z | z <;> omega) hJ.1)
  · have o := hJ.1 83 27 (fun z => by rcases z with z | z | z <;> omega)
    exact o.trans x27
