-- THE EASY CALLS, over Rl
theorem Rl_83 {t : Nat} {I : e_I} {L : e_L} (h : Rl t I L) : Rl (t + 1) (e_ui I 83 0 0) L := Rl_mono (Nat.le_succ t) (Rl_keep h (fun a i l => by
  by_cases q : a = 83
  · subst q
    by_cases q2 : i = 0
    · subst q2
      cases (show false = true from l)
    · rw [ui_i q2]
  · rw [ui_a q]) ((ui_a (by decide)).trans h.2.2.2.2.1.1) h.2.2.2.2.1.2)
theorem Rl_K {t : Nat} {I : e_I} {L : e_L} {v : Int32} (hv : v ≠ 4) (h : Rl t I L) : Rl (t + 1) (r_R8 (r_R7 I v) v) L := Rl_mono (Nat.le_succ t) (Rl_R hv h)
theorem T_where (t : Nat) : ST_where (Rl t) (Rl (t + 1)) := r_where (fun _ _ h => h.1) (fun _ _ h => Rl_83 h)
theorem T_size (t : Nat) : ST_size (Rl t) (Rl (t + 1)) := r_size (fun _ _ h => h.2.1) (fun _ _ h => Rl_83 h)
theorem T_trouble (t : Nat) : ST_trouble (Rl t) (Rl (t + 1)) := r_trouble (fun _ _ h => h.1) (fun _ _ h => Rl_83 h)
theorem T_rule (t : Nat) : ST_rule (Rl t) (Rl (t + 1)) := r_rule (fun _ _ h => h.2.2.1) (fun _ _ _ hv h => Rl_K hv h)
theorem T_about (t : Nat) : ST_about (Rl t) (Rl (t + 1)) := r_about (fun _ _ h => h.2.2.1) (fun _ _ h => h.2.2.2.1) (fun _ _ _ hv h => Rl_K hv h)
theorem T_place (t : Nat) : ST_place (Rl t) (Rl (t + 1)) := r_place (fun _ _ h => h.2.2.1) (fun _ _ _ hv h => Rl_K hv h)
theorem T_fault (t : Nat) : ST_fault (Rl t) (Rl (t + 1)) := by
  intro I L h
  refine ⟨I 0 9, e_ui I 83 0 0, rfl, ?_, Rl_83 h⟩
  show some (e_ui I 83 0 0 83 2, e_ui I 83 0 0) = _
  rw [ui_i (by decide), h.1.2.1]
