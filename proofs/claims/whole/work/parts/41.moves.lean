-- MOVES: the model's 'comes'
def m_w (I : e_I) (b o r : Int32) : e_I := e_ui (e_ui (e_ui I 83 19 b) 83 20 o) 83 21 r
theorem m_w19 {I : e_I} {b o r : Int32} : m_w I b o r 83 19 = b := rfl
theorem m_w20 {I : e_I} {b o r : Int32} : m_w I b o r 83 20 = o := rfl
theorem m_w21 {I : e_I} {b o r : Int32} : m_w I b o r 83 21 = r := rfl
theorem m_wa {I : e_I} {b o r : Int32} {a i : Nat} (h : a ≠ 83) : m_w I b o r a i = I a i := by
  unfold m_w
  rw [ui_a h, ui_a h, ui_a h]
theorem m_wi {I : e_I} {b o r : Int32} {a i : Nat} (h1 : i ≠ 19) (h2 : i ≠ 20) (h3 : i ≠ 21) : m_w I b o r a i = I a i := by
  unfold m_w
  rw [ui_i h3, ui_i h2, ui_i h1]
theorem m_s19 {I : e_I} {b o r x : Int32} : e_ui (m_w I b o r) 83 19 x = m_w I x o r := by
  funext a i
  by_cases ha : a = 83
  · subst ha
    by_cases h1 : i = 19
    · subst h1
      rfl
    · simp [m_w, e_ui, h1]
  · simp [m_w, e_ui, ha]
theorem m_s20 {I : e_I} {b o r x : Int32} : e_ui (m_w I b o r) 83 20 x = m_w I b x r := by
  funext a i
  by_cases ha : a = 83
  · subst ha
    by_cases h1 : i = 20
    · subst h1
      rfl
    · simp [m_w, e_ui, h1]
  · simp [m_w, e_ui, ha]
theorem m_s21 {I : e_I} {b o r x : Int32} : e_ui (m_w I b o r) 83 21 x = m_w I b o x := by
  funext a i
  by_cases ha : a = 83
  · subst ha
    by_cases h1 : i = 21
    · subst h1
      rfl
    · simp [m_w, e_ui, h1]
  · simp [m_w, e_ui, ha]
theorem m_0 {I : e_I} : e_ui (e_ui I 83 19 0) 83 21 0 = m_w I 0 (I 83 20) 0 := by
  funext a i
  by_cases ha : a = 83
  · subst ha
    by_cases h1 : i = 20
    · subst h1
      rfl
    · simp [m_w, e_ui, h1]
  · simp [m_w, e_ui, ha]
def m_ac (j v w : Int32) (p : Int32 × Int32) : Int32 × Int32 := if ((v >>> (j &&& 31)) &&& 1) ≠ 1 then p else if j + w < 3 then (p.1 ||| ((1 : Int32) <<< ((j + w) &&& 31)), p.2) else (p.1, p.2 + 1)
def m_all (v w : Int32) (p : Int32 × Int32) : Int32 × Int32 := m_ac (0 + 1 + 1) v w (m_ac (0 + 1) v w (m_ac 0 v w p))
theorem m_step {v w : Int32} {k : e_I → Option e_I} {n : Nat} {j : Int32} {I : e_I} {b o r : Int32} (hj : ¬ j ≥ 3) : f_X8_allCome_2 v w k (n + 1) j (m_w I b o r) = f_X8_allCome_2 v w k n (j + 1) (m_w I (m_ac j v w (b, r)).1 o (m_ac j v w (b, r)).2) := by
  rw [f_X8_allCome_2, if_neg hj]
  unfold m_ac
  by_cases h : ((v >>> (j &&& 31)) &&& 1) ≠ 1
  · rw [if_pos h, if_pos h]
    rfl
  · rw [if_neg h, if_neg h]
    by_cases h2 : j + w < 3
    · rw [if_pos h2, if_pos h2]
      show f_X8_allCome_2 v w k n (j + 1) (e_ui (m_w I b o r) 83 19 (b ||| ((1 : Int32) <<< ((j + w) &&& 31)))) = _
      rw [m_s19]
    · rw [if_neg h2, if_neg h2]
      show f_X8_allCome_2 v w k n (j + 1) (e_ui (m_w I b o r) 83 21 (r + 1)) = _
      rw [m_s21]
theorem m_allCome {v w : Int32} {I : e_I} {b o r : Int32} : f_X8_allCome v w (m_w I b o r) = some (m_w I (m_all v w (b, r)).1 o (m_all v w (b, r)).2) := by
  show f_X8_allCome_2 v w (fun J => some J) (999996 + 1 + 1 + 1 + 1) 0 (m_w I b o r) = _
  rw [m_step (by decide), m_step (by decide), m_step (by decide), f_X8_allCome_2, if_pos (by decide)]
  rfl
theorem m_257 {I : e_I} {b o r : Int32} : f_X8_comes_257 (m_w I b o r) = some (m_w I (if o ≠ 3 then b else 0) o r) := by
  unfold f_X8_comes_257
  rw [m_w20]
  by_cases h : o ≠ 3
  · rw [if_pos h, if_pos h]
    show some (e_ui (m_w I b o r) 83 19 b) = _
    rw [m_s19]
  · rw [if_neg h, if_neg h]
    show some (e_ui (m_w I b o r) 83 19 0) = _
    rw [m_s19]
def m_hm (v f o : Int32) : Int32 × Int32 := if f ≠ 1 then (v, 0) else if o ≥ 3 then (v, 0) else if v &&& 4 = 0 then (v, 0) else (v &&& 3, 1)
def m_fo (v : Int32) : Int32 := if v &&& 1 ≠ 0 then (if v &&& 2 ≠ 0 then (if v &&& 4 ≠ 0 then 7 else 3) else 1) else 0
def m_ev (e : Nat) (v o s d f : Int32) : Int32 × Int32 := match e with
  | 0 => m_hm v f o
  | 1 => ((m_all (m_fo v) 1 (v &&& (m_fo v ^^^ (-1)), 0)).1 ||| 1, (m_all (m_fo v) 1 (v &&& (m_fo v ^^^ (-1)), 0)).2)
  | 2 => ((m_all v s (0, 0)).1 ||| 1, (m_all v s (0, 0)).2)
  | 3 => ((m_all v d (0, 0)).1 ||| 2, (m_all v d (0, 0)).2)
  | 4 => ((m_all v 3 (0, 0)).1 ||| 4, (m_all v 3 (0, 0)).2 + 0)
  | 5 => ((m_all v 3 (0, 0)).1 ||| 0, (m_all v 3 (0, 0)).2 + 1)
  | 6 => m_all v 1 (0, 0)
  | 7 => ((v &&& 6) ||| 2, 0)
  | _ => ((v &&& 6) ||| 0, 0)
def m_o (e : Nat) (v : Int32) : Int32 := if e = 0 ∨ e = 6 ∨ e = 8 then v + 1 else v + 0
def m_to (I : e_I) (e : Nat) (v1 v2 : Int32) : e_I := m_w I (if m_o e v2 ≠ 3 then (m_ev e v1 (m_o e v2) (I 85 1) (I 85 2) (I 85 3)).1 else 0) (m_o e v2) (m_ev e v1 (m_o e v2) (I 85 1) (I 85 2) (I 85 3)).2
theorem m_o1 {e : Nat} {v : Int32} (h : e = 0 ∨ e = 6 ∨ e = 8) : m_o e v = v + 1 := if_pos h
theorem m_o0 {e : Nat} {v : Int32} (h : ¬ (e = 0 ∨ e = 6 ∨ e = 8)) : m_o e v = v + 0 := if_neg h
theorem m_walks {I : e_I} {v b o r : Int32} : f_X8_walks v (m_w I b o r) = some (m_w I ((m_all (m_fo v) 1 (v &&& (m_fo v ^^^ (-1)), r)).1 ||| 1) o (m_all (m_fo v) 1 (v &&& (m_fo v ^^^ (-1)), r)).2) := by
  have h : ∀ s : Int32, f_X8_walks_32 v s (m_w I b o r) = some (m_w I ((m_all s 1 (v &&& (s ^^^ (-1)), r)).1 ||| 1) o (m_all s 1 (v &&& (s ^^^ (-1)), r)).2) := fun s => by
    unfold f_X8_walks_32
    rw [e_lt, m_s19, m_allCome, r_b1, e_lt]
    show some (e_ui (m_w I _ o _) 83 19 _) = _
    rw [m_s19]
    rfl
  unfold f_X8_walks m_fo
  by_cases h1 : v &&& 1 ≠ 0
  · rw [if_pos h1, if_pos h1]
    by_cases h2 : v &&& 2 ≠ 0
    · rw [if_pos h2, if_pos h2]
      by_cases h4 : v &&& 4 ≠ 0
      · rw [if_pos h4, if_pos h4, h]
      · rw [if_neg h4, if_neg h4, h]
    · rw [if_neg h2, if_neg h2, h]
  · rw [if_neg h1, if_neg h1, h]
theorem m_33 {I : e_I} {v1 v3 s0 s1 b o r : Int32} : f_X8_comes_33 v1 v3 s0 s1 (m_w I b o r) = f_X8_comes_33 v1 v3 s0 s1 (m_w I b (s1 + s0) r) := by
  have e : e_ui (m_w I b o r) 83 20 (s1 + s0) = e_ui (m_w I b (s1 + s0) r) 83 20 (s1 + s0) := by rw [m_s20, m_s20]
  unfold f_X8_comes_33
  rw [e_lt, e_lt, e]
theorem m_comes_0 {I : e_I} {v1 v2 : Int32} : f_X8_comes v1 v2 0 I = some (m_to I 0 v1 v2) := by
  unfold f_X8_comes
  rw [e_lt, e_lt]
  rw [m_0, if_pos (by decide)]
  unfold f_X8_comes_28 f_X8_comes_33
  rw [e_lt, m_s20, if_pos (by decide), if_neg (by decide), if_pos (by decide), if_neg (by decide), if_pos (by decide), if_pos (by decide), if_neg (by decide)]
  have e2 : ∀ b s o r : Int32, f_X8_comes_215 v1 s r (m_w I b o 0) = some (m_w I (if o ≠ 3 then (if s = 0 then v1 else v1 &&& 3) else 0) o r) := fun b s o r => by
    unfold f_X8_comes_215
    rw [e_lt, m_s21]
    by_cases h : s = 0
    · rw [if_pos h, if_pos h]
      unfold f_X8_comes_231
      rw [e_lt, m_s19, m_257]
    · rw [if_neg h, if_neg h]
      unfold f_X8_comes_231
      rw [e_lt, m_s19, m_257]
  have e3 : ∀ b o : Int32, f_X8_comes_202 v1 0 (m_w I b o 0) = some (m_w I (if o ≠ 3 then v1 else 0) o 0) := fun b o => by
    unfold f_X8_comes_202
    rw [if_pos rfl, e2]
    rfl
  have e4 : ∀ b o : Int32, f_X8_comes_202 v1 1 (m_w I b o 0) = some (m_w I (if o ≠ 3 then v1 &&& 3 else 0) o 1) := fun b o => by
    unfold f_X8_comes_202
    rw [if_neg (by decide), e2]
    rfl
  have e5 : m_w I 0 (v2 + 1) 0 85 (3 : Int32).toNatClampNeg = I 85 3 := rfl
  rw [e5, m_w20]
  unfold m_to
  rw [m_o1 (by decide)]
  have e6 : m_ev 0 v1 (v2 + 1) (I 85 1) (I 85 2) (I 85 3) = m_hm v1 (I 85 3) (v2 + 1) := rfl
  rw [e6]
  unfold m_hm f_X8_comes_201
  by_cases h1 : I 85 3 ≠ 1
  · rw [if_pos h1, if_pos h1, e3]
  · rw [if_neg h1, if_neg h1]
    by_cases h2 : v2 + 1 ≥ 3
    · rw [if_pos h2, if_pos h2, e3]
    · rw [if_neg h2, if_neg h2]
      by_cases h3 : v1 &&& 4 = 0
      · rw [if_pos h3, if_pos h3, e3]
      · rw [if_neg h3, if_neg h3, e4]
theorem m_comes_1 {I : e_I} {v1 v2 : Int32} : f_X8_comes v1 v2 1 I = some (m_to I 1 v1 v2) := by
  unfold f_X8_comes
  rw [e_lt, e_lt]
  rw [m_0, if_neg (by decide), if_neg (by decide), if_pos (by decide)]
  unfold f_X8_comes_33
  rw [e_lt, m_s20, if_neg (by decide), m_walks, r_b1, m_257]
  unfold m_to
  rw [m_o0 (by decide)]
  rfl
theorem m_comes_2 {I : e_I} {v1 v2 : Int32} : f_X8_comes v1 v2 2 I = some (m_to I 2 v1 v2) := by
  unfold f_X8_comes
  rw [e_lt, e_lt]
  rw [m_0, if_neg (by decide), if_neg (by decide), if_pos (by decide)]
  unfold f_X8_comes_33
  rw [e_lt, m_s20, if_pos (by decide), if_pos (by decide)]
  unfold f_X8_comes_60 e_as
  rw [if_pos (by decide), m_allCome, r_b1, if_neg (by decide)]
  unfold f_X8_comes_90
  rw [e_lt, m_s19, m_257]
  unfold m_to
  rw [m_o0 (by decide)]
  rfl
theorem m_comes_3 {I : e_I} {v1 v2 : Int32} : f_X8_comes v1 v2 3 I = some (m_to I 3 v1 v2) := by
  unfold f_X8_comes
  rw [e_lt, e_lt]
  rw [m_0, if_neg (by decide), if_neg (by decide), if_pos (by decide)]
  unfold f_X8_comes_33
  rw [e_lt, m_s20, if_pos (by decide), if_neg (by decide), if_neg (by decide)]
  unfold f_X8_comes_60 e_as
  rw [if_pos (by decide), m_allCome, r_b1, if_pos (by decide)]
  unfold f_X8_comes_90
  rw [e_lt, m_s19, m_257]
  unfold m_to
  rw [m_o0 (by decide)]
  rfl
theorem m_comes_4 {I : e_I} {v1 v2 : Int32} : f_X8_comes v1 v2 4 I = some (m_to I 4 v1 v2) := by
  unfold f_X8_comes
  rw [e_lt, e_lt]
  rw [m_0, if_neg (by decide), if_neg (by decide), if_pos (by decide)]
  unfold f_X8_comes_33
  rw [e_lt, m_s20, if_pos (by decide), if_neg (by decide), if_pos (by decide), if_pos (by decide)]
  unfold f_X8_comes_107
  rw [m_allCome, r_b1, if_neg (by decide)]
  unfold f_X8_comes_128
  rw [e_lt, m_s19, if_pos (by decide)]
  unfold f_X8_comes_147
  rw [e_lt, m_s21, m_257]
  unfold m_to
  rw [m_o0 (by decide)]
  rfl
theorem m_comes_5 {I : e_I} {v1 v2 : Int32} : f_X8_comes v1 v2 5 I = some (m_to I 5 v1 v2) := by
  unfold f_X8_comes
  rw [e_lt, e_lt]
  rw [m_0, if_neg (by decide), if_neg (by decide), if_pos (by decide)]
  unfold f_X8_comes_33
  rw [e_lt, m_s20, if_pos (by decide), if_neg (by decide), if_pos (by decide), if_neg (by decide), if_neg (by decide)]
  unfold f_X8_comes_107
  rw [m_allCome, r_b1, if_pos (by decide)]
  unfold f_X8_comes_128
  rw [e_lt, m_s19, if_neg (by decide)]
  unfold f_X8_comes_147
  rw [e_lt, m_s21, m_257]
  unfold m_to
  rw [m_o0 (by decide)]
  rfl
theorem m_comes_6 {I : e_I} {v1 v2 : Int32} : f_X8_comes v1 v2 6 I = some (m_to I 6 v1 v2) := by
  unfold f_X8_comes
  rw [e_lt, e_lt]
  rw [m_0, if_neg (by decide), if_pos (by decide)]
  unfold f_X8_comes_28 f_X8_comes_33
  rw [e_lt, m_s20, if_pos (by decide), if_neg (by decide), if_pos (by decide), if_neg (by decide), if_pos (by decide), if_neg (by decide), m_allCome, r_b1, m_257]
  unfold m_to
  rw [m_o1 (by decide)]
  rfl
theorem m_comes_7 {I : e_I} {v1 v2 : Int32} : f_X8_comes v1 v2 7 I = some (m_to I 7 v1 v2) := by
  unfold f_X8_comes
  rw [e_lt, e_lt]
  rw [m_0, if_neg (by decide), if_neg (by decide), if_pos (by decide)]
  unfold f_X8_comes_33
  rw [e_lt, m_s20, if_pos (by decide), if_neg (by decide), if_pos (by decide), if_neg (by decide), if_pos (by decide), if_pos (by decide), if_pos (by decide), if_neg (by decide)]
  unfold f_X8_comes_253
  rw [e_lt, m_s19, m_257]
  unfold m_to
  rw [m_o0 (by decide)]
  rfl
theorem m_comes_8 {I : e_I} {v1 v2 : Int32} : f_X8_comes v1 v2 8 I = some (m_to I 8 v1 v2) := by
  unfold f_X8_comes
  rw [e_lt, e_lt]
  rw [m_0, if_neg (by decide), if_neg (by decide), if_neg (by decide)]
  unfold f_X8_comes_28 f_X8_comes_33
  rw [e_lt, m_s20, if_pos (by decide), if_neg (by decide), if_pos (by decide), if_neg (by decide), if_pos (by decide), if_pos (by decide), if_pos (by decide), if_pos (by decide)]
  unfold f_X8_comes_253
  rw [e_lt, m_s19, m_257]
  unfold m_to
  rw [m_o1 (by decide)]
  rfl
theorem m_comes {I : e_I} {v1 v2 : Int32} {e : Nat} (h : e < 9) : f_X8_comes v1 v2 (nI e) I = some (m_to I e v1 v2) := by
  have c : e = 0 ∨ e = 1 ∨ e = 2 ∨ e = 3 ∨ e = 4 ∨ e = 5 ∨ e = 6 ∨ e = 7 ∨ e = 8 := by omega
  rcases c with c | c | c | c | c | c | c | c | c <;> subst c
  · exact m_comes_0
  · exact m_comes_1
  · exact m_comes_2
  · exact m_comes_3
  · exact m_comes_4
  · exact m_comes_5
  · exact m_comes_6
  · exact m_comes_7
  · exact m_comes_8
-- the class's table of moves
def c_w (I : e_I) (b o h : Int32) : e_I := e_ui (e_ui (e_ui I 12 2 b) 12 3 o) 12 4 h
theorem c_w2 {I : e_I} {b o r : Int32} : c_w I b o r 12 2 = b := rfl
theorem c_w3 {I : e_I} {b o r : Int32} : c_w I b o r 12 3 = o := rfl
theorem c_w4 {I : e_I} {b o r : Int32} : c_w I b o r 12 4 = r := rfl
theorem c_s2 {I : e_I} {b o r x : Int32} : e_ui (c_w I b o r) 12 2 x = c_w I x o r := by
  funext a i
  by_cases ha : a = 12
  · subst ha
    by_cases h1 : i = 2
    · subst h1
      rfl
    · simp [c_w, e_ui, h1]
  · simp [c_w, e_ui, ha]
theorem c_s3 {I : e_I} {b o r x : Int32} : e_ui (c_w I b o r) 12 3 x = c_w I b x r := by
  funext a i
  by_cases ha : a = 12
  · subst ha
    by_cases h1 : i = 3
    · subst h1
      rfl
    · simp [c_w, e_ui, h1]
  · simp [c_w, e_ui, ha]
theorem c_s4 {I : e_I} {b o r x : Int32} : e_ui (c_w I b o r) 12 4 x = c_w I b o x := by
  funext a i
  by_cases ha : a = 12
  · subst ha
    by_cases h1 : i = 4
    · subst h1
      rfl
    · simp [c_w, e_ui, h1]
  · simp [c_w, e_ui, ha]
def c_on (b v : Int32) : Int32 × Int32 := ((b <<< (v &&& 31)) &&& 7, e_bc ((b <<< (v &&& 31)) >>> (3 &&& 31)))
theorem c_comeOn {I : e_I} {v b o h : Int32} : f_X2_comeOn v (c_w I b o h) = some (c_w I (c_on b v).1 o (c_on b v).2) := by
  unfold f_X2_comeOn f_J6_bitCount_0f7a4
  rw [e_lt, r_b1, e_lt, e_lt, c_s4, c_s2, c_w2]
  rfl
def c_hm (o f b : Int32) : Int32 × Int32 × Int32 := if f ≠ 1 then (b, o + 1, 0) else if o + 1 ≥ 3 then (b, o + 1, 0) else if b &&& 4 = 0 then (b, o + 1, 0) else (b - 4, o + 1, 1)
def c_wk (o b : Int32) : Int32 × Int32 × Int32 := if b &&& 1 ≠ 0 then (if b &&& 2 ≠ 0 then (if b &&& 4 ≠ 0 then (b, o, 1) else (b ||| 4, o, 0)) else (b ||| 2, o, 0)) else (b ||| 1, o, 0)
def c_mv (e : Nat) (s d f b o : Int32) : Int32 × Int32 × Int32 := match e with
  | 0 => c_hm o f b
  | 1 => c_wk o b
  | 2 => ((c_on b s).1 ||| 1, o, (c_on b s).2)
  | 3 => ((c_on b d).1 ||| 2, o, (c_on b d).2)
  | 4 => ((c_on b 3).1 ||| 4, o, (c_on b 3).2)
  | 5 => ((c_on b 3).1, o, (c_on b 3).2 + 1)
  | 6 => ((c_on b 1).1, o + 1, (c_on b 1).2)
  | 7 => (b + 1, o, 0)
  | _ => (b - 1, o + 1, 0)
theorem c_move {I : e_I} {s d f b o : Int32} {e : Nat} (h : e < 9) : f_X2_move (nI e) s d f (c_w I b o 0) = some (c_w I (c_mv e s d f b o).1 (c_mv e s d f b o).2.1 (c_mv e s d f b o).2.2) := by
  have c : e = 0 ∨ e = 1 ∨ e = 2 ∨ e = 3 ∨ e = 4 ∨ e = 5 ∨ e = 6 ∨ e = 7 ∨ e = 8 := by omega
  unfold f_X2_move f_X2_move_187
  rcases c with c | c | c | c | c | c | c | c | c <;> subst c
  · rw [if_pos (by decide)]
    unfold f_X2_putOut f_X2_putOut_47 c_mv c_hm
    rw [e_lt, c_w3, c_s3, c_w3, c_w2]
    by_cases h1 : f ≠ 1
    · rw [if_pos h1, if_pos h1]
      rfl
    · rw [if_neg h1, if_neg h1]
      by_cases h2 : o + 1 ≥ 3
      · rw [if_pos h2, if_pos h2]
        rfl
      · rw [if_neg h2, if_neg h2]
        by_cases h3 : b &&& 4 = 0
        · rw [if_pos h3, if_pos h3]
          rfl
        · rw [if_neg h3, if_neg h3, e_lt, e_lt, c_s2, c_s4]
          rfl
  · rw [if_neg (by decide), if_pos (by decide)]
    unfold f_X2_walk f_X2_walk_71 c_mv c_wk
    rw [c_w2]
    by_cases h1 : b &&& 1 ≠ 0
    · rw [if_pos h1, if_pos h1]
      by_cases h2 : b &&& 2 ≠ 0
      · rw [if_pos h2, if_pos h2]
        by_cases h3 : b &&& 4 ≠ 0
        · rw [if_pos h3, if_pos h3, e_lt, c_s4]
          rfl
        · rw [if_neg h3, if_neg h3, e_lt, c_s2]
          rfl
      · rw [if_neg h2, if_neg h2, e_lt, c_s2]
        rfl
    · rw [if_neg h1, if_neg h1, e_lt, c_s2]
      rfl
  · rw [if_neg (by decide), if_neg (by decide), if_pos (by decide), c_comeOn, r_b1, e_lt]
    rw [c_s2]
    rfl
  · rw [if_neg (by decide), if_neg (by decide), if_neg (by decide), if_pos (by decide), c_comeOn, r_b1, e_lt]
    rw [c_s2]
    rfl
  · rw [if_neg (by decide), if_neg (by decide), if_neg (by decide), if_neg (by decide), if_pos (by decide), c_comeOn, r_b1, e_lt]
    rw [c_s2]
    rfl
  · rw [if_neg (by decide), if_neg (by decide), if_neg (by decide), if_neg (by decide), if_neg (by decide), if_pos (by decide), c_comeOn, r_b1, e_lt]
    rw [c_s4]
    rfl
  · rw [if_neg (by decide), if_neg (by decide), if_neg (by decide), if_neg (by decide), if_neg (by decide), if_neg (by decide), if_pos (by decide)]
    rw [e_lt, c_s3, c_comeOn, r_b1]
    rfl
  · rw [if_neg (by decide), if_neg (by decide), if_neg (by decide), if_neg (by decide), if_neg (by decide), if_neg (by decide), if_neg (by decide), if_pos (by decide)]
    rw [e_lt, c_s2]
    rfl
  · rw [if_neg (by decide), if_neg (by decide), if_neg (by decide), if_neg (by decide), if_neg (by decide), if_neg (by decide), if_neg (by decide), if_neg (by decide)]
    rw [e_lt, e_lt, c_s3, c_s2]
    rfl
def c_can (e : Nat) (b o : Int32) : Int32 := if e ≠ 6 then (if e < 6 then 1 else if b &&& 3 ≠ 1 then 0 else 1) else (if b = 0 then 0 else if o ≥ 2 then 0 else 1)
theorem c_canBe {I : e_I} {b o h : Int32} {e : Nat} (he : e < 9) : f_X2_canBe (nI e) (c_w I b o h) = some (c_can e b o) := by
  have c : e < 6 ∨ e = 6 ∨ e = 7 ∨ e = 8 := by omega
  unfold f_X2_canBe c_can
  rw [c_w2, c_w3]
  rcases c with c | c | c | c
  · have x : nI e ≠ 6 := fun q => by
      rw [n6, nI_eq (by omega) (by omega)] at q
      omega
    have y : nI e < 6 := (nI_ltI (b := 6) (by omega) (by omega)).mpr c
    rw [if_pos x, if_pos y, if_pos (by omega), if_pos c]
    rfl
  · subst c
    rw [if_neg (show ¬ (nI 6 ≠ 6) from fun n => n rfl), if_neg (show ¬ ((6 : Nat) ≠ 6) from fun n => n rfl)]
    by_cases h1 : b = 0
    · rw [if_pos h1, if_pos h1]
      rfl
    · rw [if_neg h1, if_neg h1]
      by_cases h2 : o ≥ 2
      · rw [if_pos h2, if_pos h2]
        rfl
      · rw [if_neg h2, if_neg h2]
        rfl
  · subst c
    rw [if_pos (show nI 7 ≠ 6 by decide), if_neg (show ¬ nI 7 < 6 by decide), if_pos (show (7 : Nat) ≠ 6 by decide), if_neg (show ¬ (7 : Nat) < 6 by decide)]
    by_cases h1 : b &&& 3 ≠ 1
    · rw [if_pos h1, if_pos h1]
      rfl
    · rw [if_neg h1, if_neg h1]
      rfl
  · subst c
    rw [if_pos (show nI 8 ≠ 6 by decide), if_neg (show ¬ nI 8 < 6 by decide), if_pos (show (8 : Nat) ≠ 6 by decide), if_neg (show ¬ (8 : Nat) < 6 by decide)]
    by_cases h1 : b &&& 3 ≠ 1
    · rw [if_pos h1, if_pos h1]
      rfl
    · rw [if_neg h1, if_neg h1]
      rfl
def c_b (st : Nat) : Int32 := nI st &&& 7
def c_o (st : Nat) : Int32 := nI st >>> (3 &&& 31)
def c_tb (s d f : Int32) (q : Nat) : Int32 := if c_can (q / 24) (c_b (q % 24)) (c_o (q % 24)) ≠ 0 then (if (c_mv (q / 24) s d f (c_b (q % 24)) (c_o (q % 24))).2.1 ≤ 2 then (c_mv (q / 24) s d f (c_b (q % 24)) (c_o (q % 24))).2.1 * 8 + (c_mv (q / 24) s d f (c_b (q % 24)) (c_o (q % 24))).1 else 24) else -1
def c_tr (s d f : Int32) (q : Nat) : Int32 := if c_can (q / 24) (c_b (q % 24)) (c_o (q % 24)) ≠ 0 then (c_mv (q / 24) s d f (c_b (q % 24)) (c_o (q % 24))).2.2 else 0
theorem c_ge {a : Nat} {N : Nat} (h : a < N) (hN : N < 2 ^ 31) : ¬ nI a ≥ nI N := nI_ge h hN
theorem c_cell {I : e_I} {s d f : Int32} {e st n : Nat} {k : e_I → Option e_I} (he : e < 9) (hs : st < 24) : ∃ x y z, f_X2_fit_13 s d f (nI e) k (n + 1) (nI st) I = f_X2_fit_13 s d f (nI e) k n (nI (st + 1)) (e_ui (e_ui (c_w I x y z) 13 (e * 24 + st) (c_tb s d f (e * 24 + st))) 14 (e * 24 + st) (c_tr s d f (e * 24 + st))) := by
  have q1 : (e * 24 + st) / 24 = e := by omega
  have q2 : (e * 24 + st) % 24 = st := by omega
  have ix : nI e * 24 + nI st = nI (e * 24 + st) := by rw [n24, nI_mul, nI_add]
  have hx : e_ix (nI (e * 24 + st)) 216 = true := nI_ix (by omega) (by omega)
  have cl : (nI (e * 24 + st)).toNatClampNeg = e * 24 + st := nI_clamp (by omega)
  rw [f_X2_fit_13, if_neg (show ¬ nI st ≥ 24 from c_ge hs (by decide))]
  unfold f_X7_basesOf f_X7_outsOf
  rw [r_b1, e_lt, r_b1, e_lt, e_lt]
  have e0 : e_ui (e_ui (e_ui I 12 2 (nI st &&& 7)) 12 3 (nI st >>> (3 &&& 31))) 12 4 0 = c_w I (c_b st) (c_o st) 0 := rfl
  rw [e0, c_canBe he, r_b1]
  have fin : ∀ x y z v, f_X2_fit_110 s d f (nI e) (fun v5 I => f_X2_fit_13 s d f (nI e) k n v5 I) k (nI st) v (nI e * 24 + nI st) (c_w I x y z) = f_X2_fit_13 s d f (nI e) k n (nI (st + 1)) (e_ui (e_ui (c_w I x y z) 13 (e * 24 + st) v) 14 (e * 24 + st) z) := fun x y z v => by
    unfold f_X2_fit_110 e_as
    rw [ix, if_pos hx, cl, e_lt, if_pos hx, e_lt, e_lt, nI_1]
    rfl
  by_cases hc : c_can e (c_b st) (c_o st) = 0
  · rw [if_pos hc, hc]
    unfold f_X2_fit_65
    rw [if_neg (fun n => n rfl), fin]
    refine ⟨c_b st, c_o st, 0, ?_⟩
    have t1 : c_tb s d f (e * 24 + st) = -1 := by
      unfold c_tb
      rw [q1, q2, if_neg (fun n => n hc)]
    have t2 : c_tr s d f (e * 24 + st) = 0 := by
      unfold c_tr
      rw [q1, q2, if_neg (fun n => n hc)]
    rw [t1, t2]
  · rw [if_neg hc, c_move he, r_b1]
    unfold f_X2_fit_65
    rw [if_pos hc, c_w3, c_w2]
    refine ⟨(c_mv e s d f (c_b st) (c_o st)).1, (c_mv e s d f (c_b st) (c_o st)).2.1, (c_mv e s d f (c_b st) (c_o st)).2.2, ?_⟩
    have t2 : c_tr s d f (e * 24 + st) = (c_mv e s d f (c_b st) (c_o st)).2.2 := by
      unfold c_tr
      rw [q1, q2, if_pos hc]
    by_cases h2 : (c_mv e s d f (c_b st) (c_o st)).2.1 ≤ 2
    · rw [if_pos h2]
      unfold f_X7_stateOf
      rw [r_b1, fin]
      have t1 : c_tb s d f (e * 24 + st) = (c_mv e s d f (c_b st) (c_o st)).2.1 * 8 + (c_mv e s d f (c_b st) (c_o st)).1 := by
        unfold c_tb
        rw [q1, q2, if_pos hc, if_pos h2]
      rw [t1, t2]
    · rw [if_neg h2, fin]
      have t1 : c_tb s d f (e * 24 + st) = 24 := by
        unfold c_tb
        rw [q1, q2, if_pos hc, if_neg h2]
      rw [t1, t2]
def c_S (a _i : Nat) : Prop := a = 12 ∨ a = 13 ∨ a = 14
theorem c_fit {s d f : Int32} {I : e_I} : wp (f_X2_fit s d f I) (fun J => fr c_S I J ∧ ∀ q, q < 216 → J 13 q = c_tb s d f q ∧ J 14 q = c_tr s d f q) := by
  unfold f_X2_fit
  refine wp_loop (F := fun n e J => f_X2_fit_3 s d f (fun J => some J) n (nI e) J) 9 (fun e J => fr c_S I J ∧ ∀ q, q < e * 24 → J 13 q = c_tb s d f q ∧ J 14 q = c_tr s d f q) ?_ ?_ e_FU 0 I (by omega) (wp_FU (by decide)) ⟨fr_rfl, fun q h => by omega⟩
  · intro n J hP
    show wp (f_X2_fit_3 s d f (fun J => some J) (n + 1) (nI 9) J) _
    rw [f_X2_fit_3, if_pos (by decide)]
    exact wp_some ⟨hP.1, fun q h => hP.2 q (by omega)⟩
  · intro n e J he hP ih
    show wp (f_X2_fit_3 s d f (fun J => some J) (n + 1) (nI e) J) _
    rw [f_X2_fit_3, if_neg (show ¬ nI e ≥ 9 from c_ge he (by decide))]
    refine wp_loop (F := fun m st K => f_X2_fit_13 s d f (nI e) (fun (I_2 : e_I) => e_let (nI e + 1) (fun (x_3 : Int32) => f_X2_fit_3 s d f (fun J => some J) n x_3 I_2)) m (nI st) K) 24 (fun st K => fr c_S I K ∧ ∀ q, q < e * 24 + st → K 13 q = c_tb s d f q ∧ K 14 q = c_tr s d f q) ?_ ?_ e_FU 0 J (by omega) (wp_FU (by decide)) ⟨hP.1, fun q h => hP.2 q (by omega)⟩
    · intro m K hK
      show wp (f_X2_fit_13 s d f (nI e) _ (m + 1) (nI 24) K) _
      rw [f_X2_fit_13, if_pos (by decide)]
      rw [e_lt, nI_1]
      exact ih K ⟨hK.1, fun q hq => hK.2 q (by omega)⟩
    · intro m st K hst hK ih2
      obtain ⟨x, y, z, eq⟩ := c_cell (I := K) (s := s) (d := d) (f := f) (n := m) (k := fun (I_2 : e_I) => e_let (nI e + 1) (fun (x_3 : Int32) => f_X2_fit_3 s d f (fun J => some J) n x_3 I_2)) he hst
      show wp (f_X2_fit_13 s d f (nI e) _ (m + 1) (nI st) K) _
      rw [eq]
      refine ih2 _ ⟨?_, ?_⟩
      · refine fr_tr hK.1 (fr_tr (J := c_w K x y z) ?_ (fr_tr (fr_ui (Or.inr (Or.inl rfl))) (fr_ui (Or.inr (Or.inr rfl)))))
        exact fr_tr (fr_ui (Or.inl rfl)) (fr_tr (fr_ui (Or.inl rfl)) (fr_ui (Or.inl rfl)))
      · intro q hq
        by_cases c : q = e * 24 + st
        · subst c
          exact ⟨by rw [ui_a (by decide), ui_s], ui_s⟩
        · have w : ∀ a, a ≠ 12 → c_w K x y z a q = K a q := fun a ha => by
            unfold c_w
            rw [ui_a ha, ui_a ha, ui_a ha]
          have k := hK.2 q (by omega)
          exact ⟨by rw [ui_i c, ui_i c, w 13 (by decide)]; exact k.1, by rw [ui_i c, ui_i c, w 14 (by decide)]; exact k.2⟩
-- the moves as numbers
def mO (e st : Nat) : Nat := (m_o e (nI (st / 8))).toNatClampNeg
def mE (s d f e st : Nat) : Int32 × Int32 := m_ev e (nI (st % 8)) (m_o e (nI (st / 8))) (nI s) (nI d) (nI f)
def mA (s d f e st : Nat) : Nat := if mO e st = 3 then 0 else (mE s d f e st).1.toNatClampNeg
def mR (s d f e st : Nat) : Nat := (mE s d f e st).2.toNatClampNeg
def mB (s d f e st : Nat) : Nat := if mO e st = 3 then 24 else 8 * mO e st + mA s d f e st
def mC (e st : Nat) : Bool := if e < 6 then true else if e = 6 then decide (st % 8 ≠ 0) && decide (st / 8 < 2) else decide (st % 4 = 1)
def m_k1 (s d f e st : Nat) : Bool := decide (m_o e (nI (st / 8)) = nI (mO e st)) && decide (mO e st ≤ 3) && decide (mA s d f e st < 8) && decide ((if m_o e (nI (st / 8)) ≠ 3 then (mE s d f e st).1 else 0) = nI (mA s d f e st)) && decide ((mE s d f e st).2 = nI (mR s d f e st)) && decide (mR s d f e st ≤ 4)
def m_k2 (s d f e st : Nat) : Bool := decide (c_tb (nI s) (nI d) (nI f) (e * 24 + st) = (if mC e st then nI (mB s d f e st) else -1)) && decide (c_tr (nI s) (nI d) (nI f) (e * 24 + st) = (if mC e st then nI (mR s d f e st) else 0)) && decide (mB s d f e st ≤ 24)
def m_ka (g : Nat → Nat → Nat → Nat → Nat → Bool) : Bool := (List.range 2).all fun s => (List.range 2).all fun d => (List.range 2).all fun f => (List.range 9).all fun e => (List.range 24).all fun st => g (s + 1) (d + 2) f e st
set_option maxRecDepth 100000 in
theorem m_fin_1 : m_ka m_k1 = true := by decide +kernel
set_option maxRecDepth 100000 in
theorem m_fin_2 : m_ka m_k2 = true := by decide +kernel
theorem m_ka_at {g : Nat → Nat → Nat → Nat → Nat → Bool} (h : m_ka g = true) {s d f e st : Nat} (hs : s < 2) (hd : d < 2) (hf : f < 2) (he : e < 9) (ht : st < 24) : g (s + 1) (d + 2) f e st = true := by
  have k1 := List.all_eq_true.mp h s (List.mem_range.mpr hs)
  have k2 := List.all_eq_true.mp k1 d (List.mem_range.mpr hd)
  have k3 := List.all_eq_true.mp k2 f (List.mem_range.mpr hf)
  have k4 := List.all_eq_true.mp k3 e (List.mem_range.mpr he)
  exact List.all_eq_true.mp k4 st (List.mem_range.mpr ht)
def RV (s d f : Nat) : Prop := (1 ≤ s ∧ s ≤ 2) ∧ (2 ≤ d ∧ d ≤ 3) ∧ f ≤ 1
theorem m_f1 {s d f e st : Nat} (h : RV s d f) (he : e < 9) (hs : st < 24) : m_o e (nI (st / 8)) = nI (mO e st) ∧ mO e st ≤ 3 ∧ mA s d f e st < 8 ∧ (if m_o e (nI (st / 8)) ≠ 3 then (mE s d f e st).1 else 0) = nI (mA s d f e st) ∧ (mE s d f e st).2 = nI (mR s d f e st) ∧ mR s d f e st ≤ 4 := by
  obtain ⟨⟨a, b⟩, ⟨c, x⟩, y⟩ := h
  have e1 : s - 1 + 1 = s := by omega
  have e2 : d - 2 + 2 = d := by omega
  have k := m_ka_at m_fin_1 (s := s - 1) (d := d - 2) (f := f) (by omega) (by omega) (by omega) he hs
  rw [e1, e2] at k
  unfold m_k1 at k
  simp only [Bool.and_eq_true, decide_eq_true_eq] at k
  obtain ⟨⟨⟨⟨⟨k1, k2⟩, k3⟩, k4⟩, k5⟩, k6⟩ := k
  exact ⟨k1, k2, k3, k4, k5, k6⟩
theorem m_f2 {s d f e st : Nat} (h : RV s d f) (he : e < 9) (hs : st < 24) : c_tb (nI s) (nI d) (nI f) (e * 24 + st) = (if mC e st then nI (mB s d f e st) else -1) ∧ c_tr (nI s) (nI d) (nI f) (e * 24 + st) = (if mC e st then nI (mR s d f e st) else 0) ∧ mB s d f e st ≤ 24 := by
  obtain ⟨⟨a, b⟩, ⟨c, x⟩, y⟩ := h
  have e1 : s - 1 + 1 = s := by omega
  have e2 : d - 2 + 2 = d := by omega
  have k := m_ka_at m_fin_2 (s := s - 1) (d := d - 2) (f := f) (by omega) (by omega) (by omega) he hs
  rw [e1, e2] at k
  unfold m_k2 at k
  simp only [Bool.and_eq_true, decide_eq_true_eq] at k
  obtain ⟨⟨k1, k2⟩, k3⟩ := k
  exact ⟨k1, k2, k3⟩
theorem m_view {I : e_I} {s d f e st : Nat} (h : RV s d f) (h1 : I 85 1 = nI s) (h2 : I 85 2 = nI d) (h3 : I 85 3 = nI f) (he : e < 9) (hs : st < 24) : f_X8_comes (nI (st % 8)) (nI (st / 8)) (nI e) I = some (m_w I (nI (mA s d f e st)) (nI (mO e st)) (nI (mR s d f e st))) := by
  obtain ⟨a, b, c, x, y, z⟩ := m_f1 h he hs
  rw [m_comes he]
  unfold m_to
  rw [h1, h2, h3]
  unfold mE at x y
  rw [x, y, a]
theorem m_canBe_all : ∀ e, e < 9 → ∀ st, st < 24 → f_X8_canBe (nI (st % 8)) (nI (st / 8)) (nI e) = some (if mC e st then 1 else 0) := by decide +kernel
-- the table that the class has, when it has a text
def c_T (I : e_I) (s d f : Nat) : Prop := ∀ e, e < 9 → ∀ st, st < 24 → I 13 (e * 24 + st) = (if mC e st then nI (mB s d f e st) else -1) ∧ I 14 (e * 24 + st) = (if mC e st then nI (mR s d f e st) else 0)
theorem c_fits {s d f : Nat} {I : e_I} (h : RV s d f) : wp (f_X2_fit (nI s) (nI d) (nI f) I) (fun J => fr c_S I J ∧ c_T J s d f) := by
  refine wp_mono c_fit (fun J hJ => ⟨hJ.1, fun e he st hs => ?_⟩)
  have k := hJ.2 (e * 24 + st) (by omega)
  have l := m_f2 h he hs
  rw [k.1, k.2]
  exact ⟨l.1, l.2.1⟩
theorem c_behind {I : e_I} {s d f e st : Nat} (hT : c_T I s d f) (he : e < 9) (hs : st < 24) : f_X2_behind (nI e) (nI st) I = some (if mC e st then nI (mB s d f e st) else -1) := by
  have ix : nI e * 24 + nI st = nI (e * 24 + st) := by rw [n24, nI_mul, nI_add]
  have hx : e_ix (nI (e * 24 + st)) 216 = true := nI_ix (by omega) (by omega)
  have cl : (nI (e * 24 + st)).toNatClampNeg = e * 24 + st := nI_clamp (by omega)
  unfold f_X2_behind f_X2_behind_35 e_as
  rw [if_neg (nI_pos (by omega)), if_neg (show ¬ nI e ≥ 9 from c_ge he (by decide)), if_neg (nI_pos (by omega)), if_neg (show ¬ nI st ≥ 24 from c_ge hs (by decide)), ix, if_pos hx, cl, (hT e he st hs).1]
theorem c_runsBy {I : e_I} {s d f e st : Nat} (hT : c_T I s d f) (he : e < 9) (hs : st < 24) : f_X2_runsBy (nI e) (nI st) I = some (if mC e st then nI (mR s d f e st) else 0) := by
  have ix : nI e * 24 + nI st = nI (e * 24 + st) := by rw [n24, nI_mul, nI_add]
  have hx : e_ix (nI (e * 24 + st)) 216 = true := nI_ix (by omega) (by omega)
  have cl : (nI (e * 24 + st)).toNatClampNeg = e * 24 + st := nI_clamp (by omega)
  unfold f_X2_runsBy f_X2_runsBy_35 e_as
  rw [if_neg (nI_pos (by omega)), if_neg (show ¬ nI e ≥ 9 from c_ge he (by decide)), if_neg (nI_pos (by omega)), if_neg (show ¬ nI st ≥ 24 from c_ge hs (by decide)), ix, if_pos hx, cl, (hT e he st hs).2]
theorem c_can_at {I : e_I} {s d f e st : Nat} (h : RV s d f) (hT : c_T I s d f) (he : e < 9) (hs : st < 24) : f_X2_can (nI e) (nI st) I = some (if mC e st then 1 else 0) := by
  unfold f_X2_can
  rw [c_behind hT he hs, r_b1]
  have hb := (m_f2 h he hs).2.2
  by_cases c : mC e st = true
  · rw [if_pos c, if_neg (nI_m1 (by omega)), if_pos c]
    rfl
  · rw [if_neg c, if_pos rfl, if_neg c]
    rfl
