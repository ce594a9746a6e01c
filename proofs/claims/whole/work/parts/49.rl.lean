-- THE RELATION of the class's memory and the model's, from call to call
def r_word (w : List Nat) : Prop := 1 ≤ w.length ∧ w.length ≤ 6 ∧ ∀ x ∈ w, 1 ≤ x ∧ x ≤ 26
def r_code (w : List Nat) : Nat := w.foldl (fun a x => a * 27 + x) 0
def r_name (C M : Nat → Int32) (b : Nat) : Prop := ∃ w, r_word w ∧ C b = nI (r_code w) ∧ ∀ k, k < 6 → M (6 * b + k) = if k < w.length then nI (w.getD k 0 + 96) else 0
-- all games that are kept have as many batters
def r_cnt (I : e_I) : Prop := ∀ j, j < r_n (I 9 2) → I (33 + 5 * ((r_n (I 9 1) + 9 - j) % 10)) 0 = I 85 0
theorem r_cnt_of {I J : e_I} (h1 : J 9 1 = I 9 1) (h2 : J 9 2 = I 9 2) (hg : ∀ a, 33 ≤ a → a ≤ 82 → J a 0 = I a 0) (h85 : J 85 0 = I 85 0) (h : r_cnt I) : r_cnt J := fun j hj => by
  rw [h2] at hj
  rw [h1, h85, hg _ (by omega) (by omega)]
  exact h j hj
def Rl (t : Nat) (I : e_I) (L : e_L) : Prop := r_told I ∧ r_tape I ∧ r_text I t ∧ r_past I t ∧ (I 11 5 = 0 ∧ c_Z L) ∧ (I 83 6 ≠ 0 → c_T I (r_n (I 25 0)) (r_n (I 25 1)) (r_n (I 25 2)) ∧ ∀ b, b < r_n (I 85 0) → r_name (I 8) (I 87) b) ∧ (I 83 6 = 0 → I 23 6 = 0) ∧ r_cnt I
theorem r_live_g {a i : Nat} (h : 33 ≤ a) (h2 : a ≤ 82) : r_live a i = true := by
  have h1 : Nat.ble 23 a = true := Nat.ble_eq_true_of_le (by omega)
  have h3 : Nat.ble a 82 = true := Nat.ble_eq_true_of_le h2
  have h4 : Nat.ble a 32 = false := Bool.eq_false_iff.mpr (fun h => by have := Nat.le_of_ble_eq_true h; omega)
  unfold r_live
  split <;> first | omega | (rw [h1, h3, h4]; cases Nat.ble 28 a <;> rfl)
theorem r_GR_mono {F ch ru od no M : Nat → Int32} {o t t' : Nat} (ht : t ≤ t') (h : r_GR F ch ru od no M o t) : r_GR F ch ru od no M o t' := by
  obtain ⟨h1, h2, h3, h4, h5, h6, h7, h8, h9, h10, ⟨a, b, c⟩, h12⟩ := h
  exact ⟨h1, h2, h3, h4, h5, h6, h7, h8, h9, h10, ⟨a, b, Nat.le_trans c ht⟩, h12⟩
theorem Rl_mono {t t' : Nat} {I : e_I} {L : e_L} (ht : t ≤ t') (h : Rl t I L) : Rl t' I L := by
  obtain ⟨h1, h2, h3, h4, h5⟩ := h
  refine ⟨h1, h2, ?_, ⟨h4.1, fun j hj g hg => r_GR_mono (Nat.mul_le_mul_left 100 ht) (h4.2 j hj g hg)⟩, h5⟩
  rcases h3 with h3 | h3
  · exact Or.inl h3
  · exact Or.inr ⟨h3.1, r_GR_mono (Nat.mul_le_mul_left 100 ht) h3.2⟩
-- what is written into scratch cells alone changes nothing
def sameL (I J : e_I) : Prop := ∀ a i, r_live a i = true → J a i = I a i
theorem sameL_rfl {I : e_I} : sameL I I := fun _ _ _ => rfl
theorem sameL_tr {I J K : e_I} (h : sameL I J) (k : sameL J K) : sameL I K := fun a i l => by rw [k a i l, h a i l]
theorem sameL_fr {S : Nat → Nat → Prop} {I J : e_I} (hs : ∀ a i, r_live a i = true → ¬ S a i) (h : fr S I J) : sameL I J := fun a i l => h a i (hs a i l)
theorem Rl_keep {t : Nat} {I J : e_I} {L M : e_L} (h : Rl t I L) (hf : sameL I J) (h11 : J 11 5 = 0) (hz : c_Z M) : Rl t J M := by
  obtain ⟨h1, h2, h3, h4, h5, h6, h7, h8⟩ := h
  have c5 : J 5 = I 5 := funext fun i => hf 5 i rfl
  have c6 : J 6 = I 6 := funext fun i => hf 6 i rfl
  have c8 : J 8 = I 8 := funext fun i => hf 8 i rfl
  have c13 : J 13 = I 13 := funext fun i => hf 13 i rfl
  have c14 : J 14 = I 14 := funext fun i => hf 14 i rfl
  have c84 : J 84 = I 84 := funext fun i => hf 84 i rfl
  have c85 : J 85 = I 85 := funext fun i => hf 85 i rfl
  have c87 : J 87 = I 87 := funext fun i => hf 87 i rfl
  have c96 : J 96 = I 96 := funext fun i => hf 96 i rfl
  have c23 : J 23 = I 23 := funext fun i => hf 23 i rfl
  have c24 : J 24 = I 24 := funext fun i => hf 24 i rfl
  have c25 : J 25 = I 25 := funext fun i => hf 25 i rfl
  have c26 : J 26 = I 26 := funext fun i => hf 26 i rfl
  have c27 : J 27 = I 27 := funext fun i => hf 27 i rfl
  refine ⟨?_, r_tape_of (hf 1 3 rfl) (hf 83 5 rfl) c84 c5 c6 h2, ?_, ?_, ⟨h11, hz⟩, ?_, by rw [hf 83 6 rfl, hf 23 6 rfl]; exact h7, r_cnt_of (hf 9 1 rfl) (hf 9 2 rfl) (fun a x y => hf a 0 (r_live_g x y)) (hf 85 0 rfl) h8⟩
  · unfold r_told
    rw [hf 0 8 rfl, hf 0 9 rfl, hf 0 10 rfl, hf 83 1 rfl, hf 83 2 rfl, hf 83 3 rfl]
    exact h1
  · unfold r_text
    rw [hf 83 6 rfl, c23, c24, c25, c26, c27, c85]
    exact h3
  · obtain ⟨g1, g2⟩ := h4
    refine ⟨by rw [hf 9 2 rfl, hf 9 1 rfl, hf 83 33 rfl]; exact g1, fun j hj g hgg => ?_⟩
    rw [hf 9 2 rfl] at hj
    rw [hf 9 1 rfl] at hgg
    have k := g2 j hj g hgg
    have hm : (r_n (I 9 1) + 9 - j) % 10 < 10 := Nat.mod_lt _ (by decide)
    have cc : ∀ a, 33 ≤ a → a ≤ 82 → J a = I a := fun a x y => funext fun i => hf a i (r_live_g x y)
    rw [cc g (by omega) (by omega), cc (g + 1) (by omega) (by omega), cc (g + 2) (by omega) (by omega), cc (g + 3) (by omega) (by omega), cc (g + 4) (by omega) (by omega), c96, hf 9 2 rfl]
    exact k
  · rw [hf 83 6 rfl]
    intro n
    obtain ⟨a, b⟩ := h6 n
    refine ⟨?_, ?_⟩
    · rw [c25]
      unfold c_T
      rw [c13, c14]
      exact a
    · rw [c85, c8, c87]
      exact b
-- a trouble is told
theorem Rl_R {t : Nat} {v : Int32} {I : e_I} {L : e_L} (hv : v ≠ 4) (h : Rl t I L) : Rl t (r_R8 (r_R7 I v) v) L := by
  obtain ⟨h1, h2, h3, h4, h5, h6⟩ := h
  exact ⟨r_told_R hv h1, h2, h3, r_past_of (I := I) rfl rfl rfl (fun a x y => funext fun i => by unfold r_R8 r_R7; rw [ui_a (show a ≠ 83 by omega), ui_a (show a ≠ 83 by omega), ui_a (show a ≠ 83 by omega), ui_a (show a ≠ 0 by omega)]) h4, h5, h6.1, h6.2.1, r_cnt_of (I := I) rfl rfl (fun a x y => by unfold r_R8 r_R7; rw [ui_a (show a ≠ 83 by omega), ui_a (show a ≠ 83 by omega), ui_a (show a ≠ 83 by omega), ui_a (show a ≠ 0 by omega)]) rfl h6.2.2⟩
theorem R8_congr {I J : e_I} {v : Int32} {a i : Nat} (h : J a i = I a i) : r_R8 J v a i = r_R8 I v a i := by
  show (if a = 83 then (if i = 1 then v else (if a = 83 then (if i = 3 then -1 else (if a = 83 then (if i = 0 then 0 else J a i) else J a i)) else (if a = 83 then (if i = 0 then 0 else J a i) else J a i))) else (if a = 83 then (if i = 3 then -1 else (if a = 83 then (if i = 0 then 0 else J a i) else J a i)) else (if a = 83 then (if i = 0 then 0 else J a i) else J a i))) = _
  rw [h]
  rfl
theorem Rl_fin {t : Nat} {v : Int32} {I I1 I2 : e_I} {L M : e_L} (hv : v ≠ 4) (h : Rl t I L) (h7 : sameL (r_R7 I v) I1) (h8 : sameL (r_R8 I1 v) I2) (h11 : I2 11 5 = 0) (hz : c_Z M) : Rl (t + 1) I2 M :=
  Rl_mono (Nat.le_succ t) (Rl_keep (Rl_R hv h) (fun a i l => by rw [h8 a i l, R8_congr (h7 a i l)]) h11 hz)
theorem st_1 {α : Type} {o7 : Option (α × e_I)} {f8 : e_I → Option (α × e_I)} {R : e_I → Prop} (h : wp o7 (fun p => wp (f8 p.2) (fun q => q.1 = p.1 ∧ R q.2))) : ∃ r I1 I2, o7 = some (r, I1) ∧ f8 I1 = some (r, I2) ∧ R I2 := by
  obtain ⟨⟨r, I1⟩, e, ⟨⟨r2, I2⟩, e2, h1, h2⟩⟩ := h
  have h1 : r2 = r := h1
  subst h1
  exact ⟨r2, I1, I2, e, e2, h2⟩
theorem st_2 {α : Type} {o7 : Option (α × e_I × e_L)} {f8 : e_I → e_L → Option (α × e_I × e_L)} {R : e_I → e_L → Prop} (h : wp o7 (fun p => wp (f8 p.2.1 p.2.2) (fun q => q.1 = p.1 ∧ R q.2.1 q.2.2))) : ∃ r I1 L1 I2 L2, o7 = some (r, I1, L1) ∧ f8 I1 L1 = some (r, I2, L2) ∧ R I2 L2 := by
  obtain ⟨⟨r, I1, L1⟩, e, ⟨⟨r2, I2, L2⟩, e2, h1, h2⟩⟩ := h
  have h1 : r2 = r := h1
  subst h1
  exact ⟨r2, I1, L1, I2, L2, e, e2, h2⟩
-- the game as numbers
def VW (I : e_I) (g c s d f sl ti : Nat) (CH : Nat → Nat → Nat) (O : Nat → Nat) (b p fc st : Nat) : Prop := NV c s d f sl ti CH ∧ CV I g c s d f sl ti CH O ∧ MV I c s d f sl ti CH ∧ (∀ i, i < c → I 85 (60 + i) = nI (O i) ∧ O i < c) ∧ (∀ i j, i < c → j < c → O i = O j → i = j) ∧ (I g 4 = nI b ∧ I 85 72 = nI b ∧ p < c ∧ O p = b) ∧ (I g 5 = nI fc ∧ I 85 73 = nI fc ∧ fc ≤ 70000) ∧ (I g 2 = nI st ∧ st < 24 ∧ I 85 70 = nI (st % 8) ∧ I 85 71 = nI (st / 8)) ∧ c_T I s d f
theorem nI_rn {v k : Int32} {n : Nat} (h0 : 0 ≤ v) (h4 : v ≤ k) (hk : k.toInt = n) : v = nI (r_n v) ∧ r_n v ≤ n := by
  obtain ⟨j, hj, e⟩ := nI_lo h0 h4 hk
  have hn : (n : Int) < 2 ^ 31 := by
    rw [← hk]
    exact Int32.toInt_lt k
  rw [e, nI_r (by omega)]
  exact ⟨rfl, hj⟩
theorem nI_rn0 {v : Int32} (h0 : 0 ≤ v) : v = nI (r_n v) ∧ r_n v < 2 ^ 31 := by
  obtain ⟨j, hj, e⟩ := nI_of (Int32.not_lt.mpr h0)
  rw [e, nI_r hj]
  exact ⟨rfl, hj⟩
theorem nI_rlt {v k : Int32} (h0 : 0 ≤ v) (h : v < k) : r_n v < r_n k := r_nat h0 h
theorem VW_of {I : e_I} {g t : Nat} (h : r_GR (I g) (I (g + 1)) (I (g + 2)) (I (g + 3)) (I (g + 4)) (I 85) 0 t) (hT : c_T I (r_n (I (g + 2) 0)) (r_n (I (g + 2) 1)) (r_n (I (g + 2) 2))) (ht : t ≤ 70000) : ∃ c s d f sl ti CH O b p fc st, VW I g c s d f sl ti CH O b p fc st ∧ c = r_n (I 85 0) ∧ st = r_n (I g 2) ∧ fc = r_n (I g 5) ∧ b = r_n (I g 4) ∧ sl = r_n (I (g + 2) 3) ∧ (s = r_n (I (g + 2) 0) ∧ d = r_n (I (g + 2) 1) ∧ f = r_n (I (g + 2) 2)) ∧ fc ≤ t ∧ CH = (fun b e => r_n (I (g + 1) (6 * b + e))) ∧ O = (fun i => r_n (I (g + 3) i)) := by
  obtain ⟨⟨a0, a1, a2⟩, hru, ⟨r1, r2, r3, r4, r5, r6, r7, r8, r9, r10⟩, hch, hch2, hod, hinj, hin, ⟨s1, s2, s3, s4, s5⟩, ⟨n1, n2, n3⟩, ⟨f1, f2, f3⟩, hsc, hlog⟩ := h
  simp only [Nat.zero_add] at *
  obtain ⟨k0, k1⟩ := nI_rn (n := 9) (Int32.le_trans (show (0 : Int32) ≤ 1 by decide) a1) a2 rfl
  have k2 : 1 ≤ r_n (I 85 0) := by
    rw [k0] at a1
    exact (nI_leI (a := 1) (by decide) (by omega)).mp a1
  obtain ⟨e0, e0'⟩ := nI_rn (n := 2) (Int32.le_trans (show (0 : Int32) ≤ 1 by decide) r1) r2 rfl
  obtain ⟨e1, e1'⟩ := nI_rn (n := 3) (Int32.le_trans (show (0 : Int32) ≤ 2 by decide) r3) r4 rfl
  obtain ⟨e2, e2'⟩ := nI_rn (n := 1) r5 r6 rfl
  obtain ⟨e3, e3'⟩ := nI_rn (n := 20) r7 r8 rfl
  obtain ⟨e4, e4'⟩ := nI_rn (n := 99) (Int32.le_trans (show (0 : Int32) ≤ 1 by decide) r9) r10 rfl
  have e0'' : 1 ≤ r_n (I (g + 2) 0) := by
    rw [e0] at r1
    exact (nI_leI (a := 1) (by decide) (by omega)).mp r1
  have e1'' : 2 ≤ r_n (I (g + 2) 1) := by
    rw [e1] at r3
    exact (nI_leI (a := 2) (by decide) (by omega)).mp r3
  have e4'' : 1 ≤ r_n (I (g + 2) 4) := by
    rw [e4] at r9
    exact (nI_leI (a := 1) (by decide) (by omega)).mp r9
  have m1 := hru 0 (by decide)
  have m2 := hru 1 (by decide)
  have m3 := hru 2 (by decide)
  have m4 := hru 3 (by decide)
  have m5 := hru 4 (by decide)
  have ch0 : ∀ b, b < r_n (I 85 0) → ∀ e, e < 6 → I (g + 1) (6 * b + e) = nI (r_n (I (g + 1) (6 * b + e))) ∧ r_n (I (g + 1) (6 * b + e)) ≤ 20 := fun b hb e he => by
    have k := (hch2 b hb).1 e he
    exact nI_rn (n := 20) k.1 k.2 rfl
  have od0 : ∀ i, i < r_n (I 85 0) → I (g + 3) i = nI (r_n (I (g + 3) i)) ∧ r_n (I (g + 3) i) < r_n (I 85 0) := fun i hi => by
    have k := hod i hi
    exact ⟨(nI_rn0 k.2.1).1, nI_rlt k.2.1 k.2.2⟩
  have inj0 : ∀ i j, i < r_n (I 85 0) → j < r_n (I 85 0) → r_n (I (g + 3) i) = r_n (I (g + 3) j) → i = j := fun i j hi hj e => by
    refine hinj i j hi hj ?_
    rw [(od0 i hi).1, (od0 j hj).1, e]
  obtain ⟨x4, x4'⟩ := nI_rn0 n2
  have x5 := nI_rlt n2 n3
  obtain ⟨p, hp, ep⟩ := pig (r_n (I 85 0)) (fun i => r_n (I (g + 3) i)) (fun i hi => (od0 i hi).2) inj0 (r_n (I g 4)) x5
  obtain ⟨y5, y5'⟩ := nI_rn0 f2
  obtain ⟨b0, b0'⟩ := nI_rn (n := 7) s1 s2 rfl
  obtain ⟨o0, o0'⟩ := nI_rn (n := 2) s3 s4 rfl
  have st0 : I g 2 = nI (r_n (I 85 71) * 8 + r_n (I 85 70)) := by
    rw [s5, o0, b0, n8, nI_mul, nI_add, nI_r (by omega), nI_r (by omega)]
  have st1 : r_n (I g 2) = r_n (I 85 71) * 8 + r_n (I 85 70) := by
    rw [st0, nI_r (by omega)]
  refine ⟨r_n (I 85 0), r_n (I (g + 2) 0), r_n (I (g + 2) 1), r_n (I (g + 2) 2), r_n (I (g + 2) 3), r_n (I (g + 2) 4), fun b e => r_n (I (g + 1) (6 * b + e)), fun i => r_n (I (g + 3) i), r_n (I g 4), p, r_n (I g 5), r_n (I g 2), ⟨⟨⟨by omega, by omega⟩, ⟨⟨by omega, by omega⟩, ⟨by omega, by omega⟩, by omega⟩, by omega, ⟨by omega, by omega⟩, fun b hb => ?_⟩, ⟨a0.trans k0, ⟨e0, e1, e2, e3, e4⟩, fun b hb e he => (ch0 b hb e he).1, od0⟩, ⟨k0, ⟨by rw [← m1]; exact e0, by rw [← m2]; exact e1, by rw [← m3]; exact e2⟩, by rw [← m4]; exact e3, by rw [← m5]; exact e4, fun b hb e he => ?_⟩, fun i hi => ⟨by rw [← (hod i hi).1]; exact (od0 i hi).1, (od0 i hi).2⟩, inj0, ⟨x4, by rw [← n1]; exact x4, hp, ep⟩, ⟨y5, by rw [← f1]; exact y5, by omega⟩, ⟨by rw [st1]; exact st0, by omega, ?_, ?_⟩, hT⟩, rfl, rfl, rfl, rfl, rfl, ⟨rfl, rfl, rfl⟩, f3, rfl, rfl⟩
  · have k := (hch2 b hb).2
    have q0 := ch0 b hb 0 (by decide)
    have q1 := ch0 b hb 1 (by decide)
    have q2 := ch0 b hb 2 (by decide)
    have q3 := ch0 b hb 3 (by decide)
    have q4 := ch0 b hb 4 (by decide)
    have q5 := ch0 b hb 5 (by decide)
    rw [show I (g + 1) (6 * b) = nI (r_n (I (g + 1) (6 * b + 0))) from q0.1, q1.1, q2.1, q3.1, q4.1, q5.1, nI_add, nI_add, nI_add, nI_add, nI_add, n20] at k
    have k' := (nI_eq (by omega) (by decide)).mp k
    show 0 + r_n (I (g + 1) (6 * b + 0)) + r_n (I (g + 1) (6 * b + 1)) + r_n (I (g + 1) (6 * b + 2)) + r_n (I (g + 1) (6 * b + 3)) + r_n (I (g + 1) (6 * b + 4)) + r_n (I (g + 1) (6 * b + 5)) = 20
    omega
  · have k := hch (6 * b + e) (by omega)
    rw [show 6 + 6 * b + e = 6 + (6 * b + e) by omega, ← k]
    exact (ch0 b hb e he).1
  · rw [st1, show (r_n (I 85 71) * 8 + r_n (I 85 70)) % 8 = r_n (I 85 70) by omega]
    exact b0
  · rw [st1, show (r_n (I 85 71) * 8 + r_n (I 85 70)) / 8 = r_n (I 85 71) by omega]
    exact o0
