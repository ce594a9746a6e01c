def f_X6_step_0 (k38 : e_I → Option (e_I)) : Nat → e_I → Option (e_I)
  | 0, _ => none
  | n + 1, I =>
    if (I 1 10) ≥ (I 1 9) then (
      k38 I)
    else (
      e_as (e_ix (I 1 10) 500 = true) (
      if (I 5 (I 1 10).toNatClampNeg) ≠ 32 then (
        k38 I)
      else (
        e_let (e_ui I 1 10 ((I 1 10) + 1)) (fun (I_4 : e_I) =>
        f_X6_step_0 k38 n I_4))))
set_option maxRecDepth 100000 in
set_option maxHeartbeats 4000000 in
theorem Zf_X6_step_0 {X : e_X} (hC : e_C X cX6_step RX6 1 none 2 gN) (L : e_L) (k38 : e_I → Option (e_I)) (hk38 : ∀ (I : e_I), Zo X (ph_vI L) (k38 I) 38 [(0, .ref 1)] [] I L) : ∀ (n : Nat) (I : e_I), Zo X (ph_vI L) (f_X6_step_0 k38 n I) 0 [(0, .ref 1)] [] I L := by
  intro n
  induction n with
  | zero => intro I p hp; cases hp
  | succ n ih =>
    intro I
    unfold f_X6_step_0
    refine zo_aload_n hC dX6_step_0 rfl 0 rfl ?_
    refine zo_getI hC fk6_97 at_1 dX6_step_1 ?_
    refine zo_aload_n hC dX6_step_4 rfl 0 rfl ?_
    refine zo_getI hC fk6_94 at_1 dX6_step_5 ?_
    refine zo_icmp_ge (tgt := 38) hC dX6_step_8 (by decide) (fun c_1 => ?_) (fun c_1 => ?_)
    · exact hk38 I
    · refine zo_aload_n hC dX6_step_11 rfl 0 rfl ?_
      refine zo_getR hC (r := 5) fk6_21 (by decide) gr_1_6 at_1 dX6_step_12 ?_
      refine zo_aload_n hC dX6_step_15 rfl 0 rfl ?_
      refine zo_getI hC fk6_97 at_1 dX6_step_16 ?_
      refine zo_as (fun h_2 => ?_)
      refine zo_bald hC ar_5 (e_ix_vp h_2) dX6_step_19 ?_
      refine zo_bipush (v := 32) hC (by decide) dX6_step_20 ?_
      refine zo_icmp_ne (tgt := 38) hC dX6_step_22 (by decide) (fun c_3 => ?_) (fun c_3 => ?_)
      · exact hk38 I
      · refine zo_aload_n hC dX6_step_25 rfl 0 rfl ?_
        refine zo_dup hC rfl dX6_step_26 ?_
        refine zo_getI hC fk6_97 at_1 dX6_step_27 ?_
        refine zo_iconst (v := 1) hC (by decide) dX6_step_30 ?_
        refine zo_iadd hC dX6_step_31 ?_
        refine zo_putI hC fk6_97 ff6_10 at_1 dX6_step_32 ?_
        refine zo_topI (fun I_4 => ?_)
        refine zo_goto (tgt := 0) hC dX6_step_35 (by decide) ?_
        exact ih I_4

def f_X6_step_147 (I : e_I) : Option (e_I) :=
  some I
set_option maxRecDepth 100000 in
set_option maxHeartbeats 4000000 in
theorem Zf_X6_step_147 {X : e_X} (hC : e_C X cX6_step RX6 1 none 2 gN) (L : e_L) (I : e_I) : Zo X (ph_vI L) (f_X6_step_147 I) 147 [] [] I L := by
  unfold f_X6_step_147
  exact zo_vret hC rfl dX6_step_147

def f_X6_step_134 (s0 : Int32) (I : e_I) : Option (e_I) :=
  e_let (e_ui I 1 11 s0) (fun (I_1 : e_I) =>
  e_let (e_ui I_1 1 10 ((I_1 1 10) + 1)) (fun (I_2 : e_I) =>
  f_X6_step_147 I_2))
set_option maxRecDepth 100000 in
set_option maxHeartbeats 4000000 in
theorem Zf_X6_step_134 {X : e_X} (hC : e_C X cX6_step RX6 1 none 2 gN) (L : e_L) (s0 : Int32) (I : e_I) : Zo X (ph_vI L) (f_X6_step_134 s0 I) 134 [(0, .ref 1)] [.int s0, .ref 1] I L := by
  unfold f_X6_step_134
  refine zo_putI hC fk6_79 ff6_11 at_1 dX6_step_134 ?_
  refine zo_topI (fun I_1 => ?_)
  refine zo_aload_n hC dX6_step_137 rfl 0 rfl ?_
  refine zo_dup hC rfl dX6_step_138 ?_
  refine zo_getI hC fk6_97 at_1 dX6_step_139 ?_
  refine zo_iconst (v := 1) hC (by decide) dX6_step_142 ?_
  refine zo_iadd hC dX6_step_143 ?_
  refine zo_putI hC fk6_97 ff6_10 at_1 dX6_step_144 ?_
  refine zo_topI (fun I_2 => ?_)
  refine zo_sub [] (lv' := []) rfl ?_
  exact Zf_X6_step_147 hC L I_2

def f_X6_step (I : e_I) : Option (e_I) :=
  f_X6_step_0 (fun (I_1 : e_I) =>
    e_let (e_ui I_1 1 5 (I_1 1 10)) (fun (I_2 : e_I) =>
    e_let (e_ui I_2 1 12 0) (fun (I_3 : e_I) =>
    if (I_3 1 10) < (I_3 1 9) then (
      e_as (e_ix (I_3 1 10) 500 = true) (
      e_b1 (f_X6_isLetter (I_3 5 (I_3 1 10).toNatClampNeg)) (fun (r_6 : Int32) =>
      if r_6 = 0 then (
        e_as (e_ix (I_3 1 10) 500 = true) (
        e_b1 (f_X6_isDigit (I_3 5 (I_3 1 10).toNatClampNeg)) (fun (r_9 : Int32) =>
        if r_9 = 0 then (
          e_as (e_ix (I_3 1 10) 500 = true) (
          if (I_3 5 (I_3 1 10).toNatClampNeg) ≠ 59 then (
            f_X6_step_134 4 I_3)
          else (
            f_X6_step_134 2 I_3)))
        else (
          e_b1 (f_X6_stepOverDigits I_3) (fun (I_13 : e_I) =>
          f_X6_step_147 I_13)))))
      else (
        e_b1 (f_X6_stepOverLetters I_3) (fun (I_14 : e_I) =>
        f_X6_step_147 I_14)))))
    else (
      e_let (e_ui I_3 1 11 3) (fun (I_15 : e_I) =>
      f_X6_step_147 I_15))))) e_FU I
set_option maxRecDepth 100000 in
set_option maxHeartbeats 4000000 in
theorem Zf_X6_step {X : e_X} (hC : e_C X cX6_step RX6 1 none 2 gN) (I : e_I) (L : e_L) : Zo X (ph_vI L) (f_X6_step I) 0 [(0, .ref 1)] [] I L := by
  unfold f_X6_step
  refine Zf_X6_step_0 hC L _ (fun I_1 => ?_) e_FU I
  · refine zo_aload_n hC dX6_step_38 rfl 0 rfl ?_
    refine zo_aload_n hC dX6_step_39 rfl 0 rfl ?_
    refine zo_getI hC fk6_97 at_1 dX6_step_40 ?_
    refine zo_putI hC fk6_120 ff6_5 at_1 dX6_step_43 ?_
    refine zo_topI (fun I_2 => ?_)
    refine zo_aload_n hC dX6_step_46 rfl 0 rfl ?_
    refine zo_iconst (v := 0) hC (by decide) dX6_step_47 ?_
    refine zo_putI hC fk6_82 ff6_12 at_1 dX6_step_48 ?_
    refine zo_topI (fun I_3 => ?_)
    refine zo_aload_n hC dX6_step_51 rfl 0 rfl ?_
    refine zo_getI hC fk6_97 at_1 dX6_step_52 ?_
    refine zo_aload_n hC dX6_step_55 rfl 0 rfl ?_
    refine zo_getI hC fk6_94 at_1 dX6_step_56 ?_
    refine zo_icmp_lt (tgt := 70) hC dX6_step_59 (by decide) (fun c_4 => ?_) (fun c_4 => ?_)
    · refine zo_aload_n hC dX6_step_70 rfl 0 rfl ?_
      refine zo_getR hC (r := 5) fk6_21 (by decide) gr_1_6 at_1 dX6_step_71 ?_
      refine zo_aload_n hC dX6_step_74 rfl 0 rfl ?_
      refine zo_getI hC fk6_97 at_1 dX6_step_75 ?_
      refine zo_as (fun h_5 => ?_)
      refine zo_bald hC ar_5 (e_ix_vp h_5) dX6_step_78 ?_
      refine zo_callS_i hC [.int (I_3 5 (I_3 1 10).toNatClampNeg)] [] me_X6_isLetter mlX6_123 sm_X6_isLetter (fun p hp => T_X6_isLetter (I_3 5 (I_3 1 10).toNatClampNeg) I_3 L p hp) (by decide) rfl (Nat.le_of_ble_eq_true rfl) dX6_step_79 rfl (fun r_6 => ?_)
      refine zo_if_eq (tgt := 92) hC dX6_step_82 (by decide) (fun c_7 => ?_) (fun c_7 => ?_)
      · refine zo_aload_n hC dX6_step_92 rfl 0 rfl ?_
        refine zo_getR hC (r := 5) fk6_21 (by decide) gr_1_6 at_1 dX6_step_93 ?_
        refine zo_aload_n hC dX6_step_96 rfl 0 rfl ?_
        refine zo_getI hC fk6_97 at_1 dX6_step_97 ?_
        refine zo_as (fun h_8 => ?_)
        refine zo_bald hC ar_5 (e_ix_vp h_8) dX6_step_100 ?_
        refine zo_callS_i hC [.int (I_3 5 (I_3 1 10).toNatClampNeg)] [] me_X6_isDigit mlX6_129 sm_X6_isDigit (fun p hp => T_X6_isDigit (I_3 5 (I_3 1 10).toNatClampNeg) I_3 L p hp) (by decide) rfl (Nat.le_of_ble_eq_true rfl) dX6_step_101 rfl (fun r_9 => ?_)
        refine zo_if_eq (tgt := 114) hC dX6_step_104 (by decide) (fun c_10 => ?_) (fun c_10 => ?_)
        · refine zo_aload_n hC dX6_step_114 rfl 0 rfl ?_
          refine zo_aload_n hC dX6_step_115 rfl 0 rfl ?_
          refine zo_getR hC (r := 5) fk6_21 (by decide) gr_1_6 at_1 dX6_step_116 ?_
          refine zo_aload_n hC dX6_step_119 rfl 0 rfl ?_
          refine zo_getI hC fk6_97 at_1 dX6_step_120 ?_
          refine zo_as (fun h_11 => ?_)
          refine zo_bald hC ar_5 (e_ix_vp h_11) dX6_step_123 ?_
          refine zo_bipush (v := 59) hC (by decide) dX6_step_124 ?_
          refine zo_icmp_ne (tgt := 133) hC dX6_step_126 (by decide) (fun c_12 => ?_) (fun c_12 => ?_)
          · refine zo_iconst (v := 4) hC (by decide) dX6_step_133 ?_
            exact Zf_X6_step_134 hC L 4 I_3
          · refine zo_iconst (v := 2) hC (by decide) dX6_step_129 ?_
            refine zo_goto (tgt := 134) hC dX6_step_130 (by decide) ?_
            exact Zf_X6_step_134 hC L 2 I_3
        · refine zo_aload_n hC dX6_step_107 rfl 0 rfl ?_
          refine zo_callV_vI hC (ci := 6) [] [] me_X6_stepOverDigits mlX6_132 im_X6_stepOverDigits se_X6_stepOverDigits rfl (by decide) at_1 (fun p hp => T_X6_stepOverDigits I_3 L p hp) (by decide) rfl (Nat.le_of_ble_eq_true rfl) dX6_step_108 rfl (fun I_13 => ?_)
          refine zo_goto (tgt := 147) hC dX6_step_111 (by decide) ?_
          refine zo_sub [] (lv' := []) rfl ?_
          exact Zf_X6_step_147 hC L I_13
      · refine zo_aload_n hC dX6_step_85 rfl 0 rfl ?_
        refine zo_callV_vI hC (ci := 6) [] [] me_X6_stepOverLetters mlX6_126 im_X6_stepOverLetters se_X6_stepOverLetters rfl (by decide) at_1 (fun p hp => T_X6_stepOverLetters I_3 L p hp) (by decide) rfl (Nat.le_of_ble_eq_true rfl) dX6_step_86 rfl (fun I_14 => ?_)
        refine zo_goto (tgt := 147) hC dX6_step_89 (by decide) ?_
        refine zo_sub [] (lv' := []) rfl ?_
        exact Zf_X6_step_147 hC L I_14
    · refine zo_aload_n hC dX6_step_62 rfl 0 rfl ?_
      refine zo_iconst (v := 3) hC (by decide) dX6_step_63 ?_
      refine zo_putI hC fk6_79 ff6_11 at_1 dX6_step_64 ?_
      refine zo_topI (fun I_15 => ?_)
      refine zo_goto (tgt := 147) hC dX6_step_67 (by decide) ?_
      refine zo_sub [] (lv' := []) rfl ?_
      exact Zf_X6_step_147 hC L I_15

theorem T_X6_step (I : e_I) (L : e_L) (p : e_I) (hp : f_X6_step I = some p) : Mt yX6_step cX6_step 1 none 2 gN [.ref 1] I L ((ph_vI L) p) := zo_enter hp (by decide) (Nat.le_of_ble_eq_true rfl) (fun X hC => Zf_X6_step hC I L)
def f_X6_goesOn_35 (s0 : Int32) (I : e_I) : Option (Int32 × e_I) :=
  e_as (s0 = 0 ∨ s0 = 1) (
  some (s0, I))
set_option maxRecDepth 100000 in
set_option maxHeartbeats 4000000 in
theorem Zf_X6_goesOn_35 {X : e_X} (hC : e_C X cX6_goesOn RX6 1 (some .boolean) 3 gN) (L : e_L) (s0 : Int32) (I : e_I) : Zo X (ph_iI L) (f_X6_goesOn_35 s0 I) 35 [] [.int s0] I L := by
  unfold f_X6_goesOn_35
  refine zo_as (fun h_1 => ?_)
  exact zo_zret hC h_1 rfl dX6_goesOn_35

def f_X6_goesOn_30 (I : e_I) : Option (Int32 × e_I) :=
  f_X6_goesOn_35 1 I
set_option maxRecDepth 100000 in
set_option maxHeartbeats 4000000 in
theorem Zf_X6_goesOn_30 {X : e_X} (hC : e_C X cX6_goesOn RX6 1 (some .boolean) 3 gN) (L : e_L) (I : e_I) : Zo X (ph_iI L) (f_X6_goesOn_30 I) 30 [] [] I L := by
  unfold f_X6_goesOn_30
  refine zo_iconst (v := 1) hC (by decide) dX6_goesOn_30 ?_
  refine zo_goto (tgt := 35) hC dX6_goesOn_31 (by decide) ?_
  exact Zf_X6_goesOn_35 hC L 1 I

def f_X6_goesOn (I : e_I) : Option (Int32 × e_I) :=
  e_b1 (f_X6_step I) (fun (I_1 : e_I) =>
  if (I_1 1 11) ≠ 3 then (
    if (I_1 1 11) = 2 then (
      f_X6_goesOn_30 I_1)
    else (
      e_b2 (f_X6_blame 1 I_1) (fun (r_4 : Int32) (I_5 : e_I) =>
      if r_4 = 0 then (
        f_X6_goesOn_35 0 I_5)
      else (
        f_X6_goesOn_30 I_5))))
  else (
    some (0, I_1)))
set_option maxRecDepth 100000 in
set_option maxHeartbeats 4000000 in
theorem Zf_X6_goesOn {X : e_X} (hC : e_C X cX6_goesOn RX6 1 (some .boolean) 3 gN) (I : e_I) (L : e_L) : Zo X (ph_iI L) (f_X6_goesOn I) 0 [(0, .ref 1)] [] I L := by
  unfold f_X6_goesOn
  refine zo_aload_n hC dX6_goesOn_0 rfl 0 rfl ?_
  refine zo_callV_vI hC (ci := 6) [] [] me_X6_step mlX6_76 im_X6_step se_X6_step rfl (by decide) at_1 (fun p hp => T_X6_step I L p hp) (by decide) rfl (Nat.le_of_ble_eq_true rfl) dX6_goesOn_1 rfl (fun I_1 => ?_)
  refine zo_aload_n hC dX6_goesOn_4 rfl 0 rfl ?_
  refine zo_getI hC fk6_79 at_1 dX6_goesOn_5 ?_
  refine zo_iconst (v := 3) hC (by decide) dX6_goesOn_8 ?_
  refine zo_icmp_ne (tgt := 14) hC dX6_goesOn_9 (by decide) (fun c_2 => ?_) (fun c_2 => ?_)
  · refine zo_aload_n hC dX6_goesOn_14 rfl 0 rfl ?_
    refine zo_getI hC fk6_79 at_1 dX6_goesOn_15 ?_
    refine zo_iconst (v := 2) hC (by decide) dX6_goesOn_18 ?_
    refine zo_icmp_eq (tgt := 30) hC dX6_goesOn_19 (by decide) (fun c_3 => ?_) (fun c_3 => ?_)
    · refine zo_sub [] (lv' := []) rfl ?_
      exact Zf_X6_goesOn_30 hC L I_1
    · refine zo_aload_n hC dX6_goesOn_22 rfl 0 rfl ?_
      refine zo_iconst (v := 1) hC (by decide) dX6_goesOn_23 ?_
      refine zo_callV_iI hC (ci := 6) [.int 1] [] me_X6_blame mlX6_72 im_X6_blame se_X6_blame rfl (by decide) at_1 (fun p hp => T_X6_blame 1 I_1 L p hp) (by decide) rfl (Nat.le_of_ble_eq_true rfl) dX6_goesOn_24 rfl (fun r_4 I_5 => ?_)
      refine zo_if_eq (tgt := 34) hC dX6_goesOn_27 (by decide) (fun c_6 => ?_) (fun c_6 => ?_)
      · refine zo_iconst (v := 0) hC (by decide) dX6_goesOn_34 ?_
        refine zo_sub [] (lv' := []) rfl ?_
        exact Zf_X6_goesOn_35 hC L 0 I_5
      · refine zo_sub [] (lv' := []) rfl ?_
        exact Zf_X6_goesOn_30 hC L I_5
  · refine zo_iconst (v := 0) hC (by decide) dX6_goesOn_12 ?_
    exact zo_zret hC (by decide) rfl dX6_goesOn_13

theorem T_X6_goesOn (I : e_I) (L : e_L) (p : Int32 × e_I) (hp : f_X6_goesOn I = some p) : Mt yX6_goesOn cX6_goesOn 1 (some .boolean) 3 gN [.ref 1] I L ((ph_iI L) p) := zo_enter hp (by decide) (Nat.le_of_ble_eq_true rfl) (fun X hC => Zf_X6_goesOn hC I L)
def f_X6_keyOf_2 (I : e_I) (v1 : Int32) (k29 : Unit → Option (Int32)) (k21 : Int32 → Option (Int32)) : Nat → Int32 → Option (Int32)
  | 0, _ => none
  | n + 1, v2 =>
    if v2 ≥ (Int32.ofNat 6) then (
      k29 ())
    else (
      e_as (e_ix v2 6 = true) (
      if (I 6 v2.toNatClampNeg) ≠ v1 then (
        e_let (v2 + 1) (fun (x_4 : Int32) =>
        f_X6_keyOf_2 I v1 k29 k21 n x_4))
      else (
        k21 v2)))
set_option maxRecDepth 100000 in
set_option maxHeartbeats 4000000 in
theorem Zf_X6_keyOf_2 {X : e_X} (hC : e_C X cX6_keyOf RX6 3 (some .int) 0 gN) (I : e_I) (L : e_L) (v1 : Int32) (k29 : Unit → Option (Int32)) (k21 : Int32 → Option (Int32)) (hk29 : Zo X (ph_i I L) (k29 ()) 29 [] [] I L) (hk21 : ∀ (v2 : Int32), Zo X (ph_i I L) (k21 v2) 21 [(2, .int v2)] [] I L) : ∀ (n : Nat) (v2 : Int32), Zo X (ph_i I L) (f_X6_keyOf_2 I v1 k29 k21 n v2) 2 [(0, .ref 1), (1, .int v1), (2, .int v2)] [] I L := by
  intro n
  induction n with
  | zero => intro v2 p hp; cases hp
  | succ n ih =>
    intro v2
    unfold f_X6_keyOf_2
    refine zo_iload_n hC dX6_keyOf_2 rfl 2 rfl ?_
    refine zo_aload_n hC dX6_keyOf_3 rfl 0 rfl ?_
    refine zo_getR hC (r := 6) fk6_41 (by decide) gr_1_7 at_1 dX6_keyOf_4 ?_
    refine zo_alen hC ar_6 rfl dX6_keyOf_7 ?_
    refine zo_icmp_ge (tgt := 29) hC dX6_keyOf_8 (by decide) (fun c_1 => ?_) (fun c_1 => ?_)
    · refine zo_sub [] (lv' := []) rfl ?_
      exact hk29
    · refine zo_aload_n hC dX6_keyOf_11 rfl 0 rfl ?_
      refine zo_getR hC (r := 6) fk6_41 (by decide) gr_1_7 at_1 dX6_keyOf_12 ?_
      refine zo_iload_n hC dX6_keyOf_15 rfl 2 rfl ?_
      refine zo_as (fun h_2 => ?_)
      refine zo_iald hC ar_6 (e_ix_vp h_2) dX6_keyOf_16 ?_
      refine zo_iload_n hC dX6_keyOf_17 rfl 1 rfl ?_
      refine zo_icmp_ne (tgt := 23) hC dX6_keyOf_18 (by decide) (fun c_3 => ?_) (fun c_3 => ?_)
      · refine zo_iinc hC (x := v2) (fun x_4 => [(2, .int x_4), (0, .ref 1), (1, .int v1)]) dX6_keyOf_23 2 rfl (by rfl) (by decide) (fun _ => rfl) (fun x_4 => ?_)
        refine zo_goto (tgt := 2) hC dX6_keyOf_26 (by decide) ?_
        refine zo_sub [1, 2, 0] (lv' := [(0, .ref 1), (1, .int v1), (2, .int x_4)]) rfl ?_
        exact ih x_4
      · refine zo_sub [2] (lv' := [(2, .int v2)]) rfl ?_
        exact hk21 v2

def f_X6_keyOf (v1 : Int32) (I : e_I) : Option (Int32) :=
  f_X6_keyOf_2 I v1 (fun (_ : Unit) =>
    some (-1)) (fun (v2_1 : Int32) =>
    some v2_1) e_FU 0
set_option maxRecDepth 100000 in
set_option maxHeartbeats 4000000 in
theorem Zf_X6_keyOf {X : e_X} (hC : e_C X cX6_keyOf RX6 3 (some .int) 0 gN) (v1 : Int32) (I : e_I) (L : e_L) : Zo X (ph_i I L) (f_X6_keyOf v1 I) 0 [(0, .ref 1), (1, .int v1)] [] I L := by
  unfold f_X6_keyOf
  refine zo_iconst (v := 0) hC (by decide) dX6_keyOf_0 ?_
  refine zo_istore_n (lv' := [(2, .int 0), (0, .ref 1), (1, .int v1)]) hC dX6_keyOf_1 rfl (by decide) rfl ?_
  refine zo_sub [1, 2, 0] (lv' := [(0, .ref 1), (1, .int v1), (2, .int 0)]) rfl ?_
  refine Zf_X6_keyOf_2 hC I L v1 _ _ ?_ (fun v2_1 => ?_) e_FU 0
  · refine zo_iconst (v := (-1)) hC (by decide) dX6_keyOf_29 ?_
    exact zo_iret hC rfl dX6_keyOf_30
  · refine zo_iload_n hC dX6_keyOf_21 rfl 0 rfl ?_
    exact zo_iret hC rfl dX6_keyOf_22

theorem T_X6_keyOf (v1 : Int32) (I : e_I) (L : e_L) (p : Int32) (hp : f_X6_keyOf v1 I = some p) : Mt yX6_keyOf cX6_keyOf 3 (some .int) 0 gN [.ref 1, .int v1] I L ((ph_i I L) p) := zo_enter hp (by decide) (Nat.le_of_ble_eq_true rfl) (fun X hC => Zf_X6_keyOf hC v1 I L)
def f_X6_readChances_61 (k4 : Int32 → Int32 → e_I → Option (Int32 × e_I)) (k85 : e_I → Option (Int32 × e_I)) (k22 : e_I → Option (Int32 × e_I)) (k55 : e_I → Option (Int32 × e_I)) (v1 : Int32) (v2 : Int32) (I : e_I) : Option (Int32 × e_I) :=
  e_as (e_ix (((I 1 4) * 6) + v2) 54 = true) (
  e_let (e_ui I 3 (((I 1 4) * 6) + v2).toNatClampNeg (I 1 12)) (fun (I_2 : e_I) =>
  e_let (v2 + 1) (fun (x_3 : Int32) =>
  k4 v1 x_3 I_2)))
set_option maxRecDepth 100000 in
set_option maxHeartbeats 4000000 in
theorem Zf_X6_readChances_61 {X : e_X} (hC : e_C X cX6_readChances RX6 3 (some .boolean) 3 gN) (L : e_L) (k4 : Int32 → Int32 → e_I → Option (Int32 × e_I)) (k85 : e_I → Option (Int32 × e_I)) (k22 : e_I → Option (Int32 × e_I)) (k55 : e_I → Option (Int32 × e_I)) (hk4 : ∀ (v1 : Int32) (v2 : Int32) (I : e_I), Zo X (ph_iI L) (k4 v1 v2 I) 4 [(0, .ref 1), (1, .int v1), (2, .int v2)] [] I L) (hk85 : ∀ (I : e_I), Zo X (ph_iI L) (k85 I) 85 [(0, .ref 1)] [] I L) (hk22 : ∀ (I : e_I), Zo X (ph_iI L) (k22 I) 22 [(0, .ref 1)] [] I L) (hk55 : ∀ (I : e_I), Zo X (ph_iI L) (k55 I) 55 [(0, .ref 1)] [] I L) (v1 : Int32) (v2 : Int32) (I : e_I) : Zo X (ph_iI L) (f_X6_readChances_61 k4 k85 k22 k55 v1 v2 I) 61 [(0, .ref 1), (1, .int v1), (2, .int v2)] [] I L := by
  unfold f_X6_readChances_61
  refine zo_aload_n hC dX6_readChances_61 rfl 0 rfl ?_
  refine zo_getR hC (r := 3) fk6_15 (by decide) gr_1_1 at_1 dX6_readChances_62 ?_
  refine zo_aload_n hC dX6_readChances_65 rfl 0 rfl ?_
  refine zo_getI hC fk6_69 at_1 dX6_readChances_66 ?_
  refine zo_bipush (v := 6) hC (by decide) dX6_readChances_69 ?_
  refine zo_imul hC dX6_readChances_71 ?_
  refine zo_iload_n hC dX6_readChances_72 rfl 2 rfl ?_
  refine zo_iadd hC dX6_readChances_73 ?_
  refine zo_aload_n hC dX6_readChances_74 rfl 0 rfl ?_
  refine zo_getI hC fk6_82 at_1 dX6_readChances_75 ?_
  refine zo_as (fun h_1 => ?_)
  refine zo_iast hC ar_3 (e_ix_vp h_1) dX6_readChances_78 ?_
  refine zo_topI (fun I_2 => ?_)
  refine zo_iinc hC (x := v2) (fun x_3 => [(2, .int x_3), (0, .ref 1), (1, .int v1)]) dX6_readChances_79 2 rfl (by rfl) (by decide) (fun _ => rfl) (fun x_3 => ?_)
  refine zo_goto (tgt := 4) hC dX6_readChances_82 (by decide) ?_
  refine zo_sub [1, 2, 0] (lv' := [(0, .ref 1), (1, .int v1), (2, .int x_3)]) rfl ?_
  exact hk4 v1 x_3 I_2

def f_X6_readChances_4 (k85 : e_I → Option (Int32 × e_I)) (k22 : e_I → Option (Int32 × e_I)) (k55 : e_I → Option (Int32 × e_I)) : Nat → Int32 → Int32 → e_I → Option (Int32 × e_I)
  | 0, _, _, _ => none
  | n + 1, v1, v2, I =>
    if v2 ≥ 6 then (
      k85 I)
    else (
      e_b1 (f_X6_step I) (fun (I_2 : e_I) =>
      if (I_2 1 11) = 1 then (
        e_let (v1 + (I_2 1 12)) (fun (x_4 : Int32) =>
        if (I_2 1 12) > 20 then (
          k55 I_2)
        else (
          if v2 ≠ 5 then (
            f_X6_readChances_61 (fun v1 v2 I => f_X6_readChances_4 k85 k22 k55 n v1 v2 I) k85 k22 k55 x_4 v2 I_2)
          else (
            if x_4 = 20 then (
              f_X6_readChances_61 (fun v1 v2 I => f_X6_readChances_4 k85 k22 k55 n v1 v2 I) k85 k22 k55 x_4 v2 I_2)
            else (
              k55 I_2)))))
      else (
        k22 I_2)))
set_option maxRecDepth 100000 in
set_option maxHeartbeats 4000000 in
theorem Zf_X6_readChances_4 {X : e_X} (hC : e_C X cX6_readChances RX6 3 (some .boolean) 3 gN) (L : e_L) (k85 : e_I → Option (Int32 × e_I)) (k22 : e_I → Option (Int32 × e_I)) (k55 : e_I → Option (Int32 × e_I)) (hk85 : ∀ (I : e_I), Zo X (ph_iI L) (k85 I) 85 [(0, .ref 1)] [] I L) (hk22 : ∀ (I : e_I), Zo X (ph_iI L) (k22 I) 22 [(0, .ref 1)] [] I L) (hk55 : ∀ (I : e_I), Zo X (ph_iI L) (k55 I) 55 [(0, .ref 1)] [] I L) : ∀ (n : Nat) (v1 : Int32) (v2 : Int32) (I : e_I), Zo X (ph_iI L) (f_X6_readChances_4 k85 k22 k55 n v1 v2 I) 4 [(0, .ref 1), (1, .int v1), (2, .int v2)] [] I L := by
  intro n
  induction n with
  | zero => intro v1 v2 I p hp; cases hp
  | succ n ih =>
    intro v1 v2 I
    unfold f_X6_readChances_4
    refine zo_iload_n hC dX6_readChances_4 rfl 2 rfl ?_
    refine zo_bipush (v := 6) hC (by decide) dX6_readChances_5 ?_
    refine zo_icmp_ge (tgt := 85) hC dX6_readChances_7 (by decide) (fun c_1 => ?_) (fun c_1 => ?_)
    · refine zo_sub [0] (lv' := [(0, .ref 1)]) rfl ?_
      exact hk85 I
    · refine zo_aload_n hC dX6_readChances_10 rfl 0 rfl ?_
      refine zo_callV_vI hC (ci := 6) [] [] me_X6_step mlX6_76 im_X6_step se_X6_step rfl (by decide) at_1 (fun p hp => T_X6_step I L p hp) (by decide) rfl (Nat.le_of_ble_eq_true rfl) dX6_readChances_11 rfl (fun I_2 => ?_)
      refine zo_aload_n hC dX6_readChances_14 rfl 0 rfl ?_
      refine zo_getI hC fk6_79 at_1 dX6_readChances_15 ?_
      refine zo_iconst (v := 1) hC (by decide) dX6_readChances_18 ?_
      refine zo_icmp_eq (tgt := 28) hC dX6_readChances_19 (by decide) (fun c_3 => ?_) (fun c_3 => ?_)
      · refine zo_iload_n hC dX6_readChances_28 rfl 1 rfl ?_
        refine zo_aload_n hC dX6_readChances_29 rfl 0 rfl ?_
        refine zo_getI hC fk6_82 at_1 dX6_readChances_30 ?_
        refine zo_iadd hC dX6_readChances_33 ?_
        refine zo_topi (fun x_4 => ?_)
        refine zo_istore_n (lv' := [(1, .int x_4), (0, .ref 1), (2, .int v2)]) hC dX6_readChances_34 rfl (by decide) rfl ?_
        refine zo_aload_n hC dX6_readChances_35 rfl 1 rfl ?_
        refine zo_getI hC fk6_82 at_1 dX6_readChances_36 ?_
        refine zo_bipush (v := 20) hC (by decide) dX6_readChances_39 ?_
        refine zo_icmp_gt (tgt := 55) hC dX6_readChances_41 (by decide) (fun c_5 => ?_) (fun c_5 => ?_)
        · refine zo_sub [1] (lv' := [(0, .ref 1)]) rfl ?_
          exact hk55 I_2
        · refine zo_iload_n hC dX6_readChances_44 rfl 2 rfl ?_
          refine zo_iconst (v := 5) hC (by decide) dX6_readChances_45 ?_
          refine zo_icmp_ne (tgt := 61) hC dX6_readChances_46 (by decide) (fun c_6 => ?_) (fun c_6 => ?_)
          · refine zo_sub [1, 0, 2] (lv' := [(0, .ref 1), (1, .int x_4), (2, .int v2)]) rfl ?_
            exact Zf_X6_readChances_61 hC L (fun v1 v2 I => f_X6_readChances_4 k85 k22 k55 n v1 v2 I) k85 k22 k55 (fun v1 v2 I => ih v1 v2 I) hk85 hk22 hk55 x_4 v2 I_2
          · refine zo_iload_n hC dX6_readChances_49 rfl 0 rfl ?_
            refine zo_bipush (v := 20) hC (by decide) dX6_readChances_50 ?_
            refine zo_icmp_eq (tgt := 61) hC dX6_readChances_52 (by decide) (fun c_7 => ?_) (fun c_7 => ?_)
            · refine zo_sub [1, 0, 2] (lv' := [(0, .ref 1), (1, .int x_4), (2, .int v2)]) rfl ?_
              exact Zf_X6_readChances_61 hC L (fun v1 v2 I => f_X6_readChances_4 k85 k22 k55 n v1 v2 I) k85 k22 k55 (fun v1 v2 I => ih v1 v2 I) hk85 hk22 hk55 x_4 v2 I_2
            · refine zo_sub [1] (lv' := [(0, .ref 1)]) rfl ?_
              exact hk55 I_2
      · refine zo_sub [0] (lv' := [(0, .ref 1)]) rfl ?_
        exact hk22 I_2

def f_X6_readChances (I : e_I) : Option (Int32 × e_I) :=
  f_X6_readChances_4 (fun (I_1 : e_I) =>
    e_let (e_ui I_1 1 4 ((I_1 1 4) + 1)) (fun (I_2 : e_I) =>
    some (1, I_2))) (fun (I_3 : e_I) =>
    e_b2 (f_X6_blame 1 I_3) (fun (r_4 : Int32) (I_5 : e_I) =>
    e_as (r_4 = 0 ∨ r_4 = 1) (
    some (r_4, I_5)))) (fun (I_7 : e_I) =>
    e_b2 (f_X6_blame 2 I_7) (fun (r_8 : Int32) (I_9 : e_I) =>
    e_as (r_8 = 0 ∨ r_8 = 1) (
    some (r_8, I_9)))) e_FU 0 0 I
set_option maxRecDepth 100000 in
set_option maxHeartbeats 4000000 in
theorem Zf_X6_readChances {X : e_X} (hC : e_C X cX6_readChances RX6 3 (some .boolean) 3 gN) (I : e_I) (L : e_L) : Zo X (ph_iI L) (f_X6_readChances I) 0 [(0, .ref 1)] [] I L := by
  unfold f_X6_readChances
  refine zo_iconst (v := 0) hC (by decide) dX6_readChances_0 ?_
  refine zo_istore_n (lv' := [(1, .int 0), (0, .ref 1)]) hC dX6_readChances_1 rfl (by decide) rfl ?_
  refine zo_iconst (v := 0) hC (by decide) dX6_readChances_2 ?_
  refine zo_istore_n (lv' := [(2, .int 0), (1, .int 0), (0, .ref 1)]) hC dX6_readChances_3 rfl (by decide) rfl ?_
  refine zo_sub [2, 1, 0] (lv' := [(0, .ref 1), (1, .int 0), (2, .int 0)]) rfl ?_
  refine Zf_X6_readChances_4 hC L _ _ _ (fun I_1 => ?_) (fun I_3 => ?_) (fun I_7 => ?_) e_FU 0 0 I
  · refine zo_aload_n hC dX6_readChances_85 rfl 0 rfl ?_
    refine zo_dup hC rfl dX6_readChances_86 ?_
    refine zo_getI hC fk6_69 at_1 dX6_readChances_87 ?_
    refine zo_iconst (v := 1) hC (by decide) dX6_readChances_90 ?_
    refine zo_iadd hC dX6_readChances_91 ?_
    refine zo_putI hC fk6_69 ff6_4 at_1 dX6_readChances_92 ?_
    refine zo_topI (fun I_2 => ?_)
    refine zo_iconst (v := 1) hC (by decide) dX6_readChances_95 ?_
    exact zo_zret hC (by decide) rfl dX6_readChances_96
  · refine zo_aload_n hC dX6_readChances_22 rfl 0 rfl ?_
    refine zo_iconst (v := 1) hC (by decide) dX6_readChances_23 ?_
    refine zo_callV_iI hC (ci := 6) [.int 1] [] me_X6_blame mlX6_72 im_X6_blame se_X6_blame rfl (by decide) at_1 (fun p hp => T_X6_blame 1 I_3 L p hp) (by decide) rfl (Nat.le_of_ble_eq_true rfl) dX6_readChances_24 rfl (fun r_4 I_5 => ?_)
    refine zo_as (fun h_6 => ?_)
    exact zo_zret hC h_6 rfl dX6_readChances_27
  · refine zo_aload_n hC dX6_readChances_55 rfl 0 rfl ?_
    refine zo_iconst (v := 2) hC (by decide) dX6_readChances_56 ?_
    refine zo_callV_iI hC (ci := 6) [.int 2] [] me_X6_blame mlX6_72 im_X6_blame se_X6_blame rfl (by decide) at_1 (fun p hp => T_X6_blame 2 I_7 L p hp) (by decide) rfl (Nat.le_of_ble_eq_true rfl) dX6_readChances_57 rfl (fun r_8 I_9 => ?_)
    refine zo_as (fun h_10 => ?_)
    exact zo_zret hC h_10 rfl dX6_readChances_60

theorem T_X6_readChances (I : e_I) (L : e_L) (p : Int32 × e_I) (hp : f_X6_readChances I = some p) : Mt yX6_readChances cX6_readChances 3 (some .boolean) 3 gN [.ref 1] I L ((ph_iI L) p) := zo_enter hp (by decide) (Nat.le_of_ble_eq_true rfl) (fun X hC => Zf_X6_readChances hC I L)
def f_X6_isName_2 (I : e_I) (v1 : Int32) (k34 : Unit → Option (Int32)) (k26 : Unit → Option (Int32)) : Nat → Int32 → Option (Int32)
  | 0, _ => none
  | n + 1, v2 =>
    if v2 ≥ (I 1 4) then (
      k34 ())
    else (
      if v2 ≥ 9 then (
        k34 ())
      else (
        e_as (e_ix v2 9 = true) (
        if (I 2 v2.toNatClampNeg) ≠ v1 then (
          e_let (v2 + 1) (fun (x_5 : Int32) =>
          f_X6_isName_2 I v1 k34 k26 n x_5))
        else (
          k26 ()))))
set_option maxRecDepth 100000 in
set_option maxHeartbeats 4000000 in
theorem Zf_X6_isName_2 {X : e_X} (hC : e_C X cX6_isName RX6 3 (some .boolean) 0 gN) (I : e_I) (L : e_L) (v1 : Int32) (k34 : Unit → Option (Int32)) (k26 : Unit → Option (Int32)) (hk34 : Zo X (ph_i I L) (k34 ()) 34 [] [] I L) (hk26 : Zo X (ph_i I L) (k26 ()) 26 [] [] I L) : ∀ (n : Nat) (v2 : Int32), Zo X (ph_i I L) (f_X6_isName_2 I v1 k34 k26 n v2) 2 [(0, .ref 1), (1, .int v1), (2, .int v2)] [] I L := by
  intro n
  induction n with
  | zero => intro v2 p hp; cases hp
  | succ n ih =>
    intro v2
    unfold f_X6_isName_2
    refine zo_iload_n hC dX6_isName_2 rfl 2 rfl ?_
    refine zo_aload_n hC dX6_isName_3 rfl 0 rfl ?_
    refine zo_getI hC fk6_69 at_1 dX6_isName_4 ?_
    refine zo_icmp_ge (tgt := 34) hC dX6_isName_7 (by decide) (fun c_1 => ?_) (fun c_1 => ?_)
    · refine zo_sub [] (lv' := []) rfl ?_
      exact hk34
    · refine zo_iload_n hC dX6_isName_10 rfl 2 rfl ?_
      refine zo_bipush (v := 9) hC (by decide) dX6_isName_11 ?_
      refine zo_icmp_ge (tgt := 34) hC dX6_isName_13 (by decide) (fun c_2 => ?_) (fun c_2 => ?_)
      · refine zo_sub [] (lv' := []) rfl ?_
        exact hk34
      · refine zo_aload_n hC dX6_isName_16 rfl 0 rfl ?_
        refine zo_getR hC (r := 2) fk6_9 (by decide) gr_1_0 at_1 dX6_isName_17 ?_
        refine zo_iload_n hC dX6_isName_20 rfl 2 rfl ?_
        refine zo_as (fun h_3 => ?_)
        refine zo_iald hC ar_2 (e_ix_vp h_3) dX6_isName_21 ?_
        refine zo_iload_n hC dX6_isName_22 rfl 1 rfl ?_
        refine zo_icmp_ne (tgt := 28) hC dX6_isName_23 (by decide) (fun c_4 => ?_) (fun c_4 => ?_)
        · refine zo_iinc hC (x := v2) (fun x_5 => [(2, .int x_5), (0, .ref 1), (1, .int v1)]) dX6_isName_28 2 rfl (by rfl) (by decide) (fun _ => rfl) (fun x_5 => ?_)
          refine zo_goto (tgt := 2) hC dX6_isName_31 (by decide) ?_
          refine zo_sub [1, 2, 0] (lv' := [(0, .ref 1), (1, .int v1), (2, .int x_5)]) rfl ?_
          exact ih x_5
        · refine zo_sub [] (lv' := []) rfl ?_
          exact hk26

def f_X6_isName (v1 : Int32) (I : e_I) : Option (Int32) :=
  f_X6_isName_2 I v1 (fun (_ : Unit) =>
    some 0) (fun (_ : Unit) =>
    some 1) e_FU 0
set_option maxRecDepth 100000 in
set_option maxHeartbeats 4000000 in
theorem Zf_X6_isName {X : e_X} (hC : e_C X cX6_isName RX6 3 (some .boolean) 0 gN) (v1 : Int32) (I : e_I) (L : e_L) : Zo X (ph_i I L) (f_X6_isName v1 I) 0 [(0, .ref 1), (1, .int v1)] [] I L := by
  unfold f_X6_isName
  refine zo_iconst (v := 0) hC (by decide) dX6_isName_0 ?_
  refine zo_istore_n (lv' := [(2, .int 0), (0, .ref 1), (1, .int v1)]) hC dX6_isName_1 rfl (by decide) rfl ?_
  refine zo_sub [1, 2, 0] (lv' := [(0, .ref 1), (1, .int v1), (2, .int 0)]) rfl ?_
  refine Zf_X6_isName_2 hC I L v1 _ _ ?_ ?_ e_FU 0
  · refine zo_iconst (v := 0) hC (by decide) dX6_isName_34 ?_
    exact zo_zret hC (by decide) rfl dX6_isName_35
  · refine zo_iconst (v := 1) hC (by decide) dX6_isName_26 ?_
    exact zo_zret hC (by decide) rfl dX6_isName_27

theorem T_X6_isName (v1 : Int32) (I : e_I) (L : e_L) (p : Int32) (hp : f_X6_isName v1 I = some p) : Mt yX6_isName cX6_isName 3 (some .boolean) 0 gN [.ref 1, .int v1] I L ((ph_i I L) p) := zo_enter hp (by decide) (Nat.le_of_ble_eq_true rfl) (fun X hC => Zf_X6_isName hC v1 I L)
def f_X6_readName_38 (I : e_I) : Option (Int32 × e_I) :=
  e_b2 (f_X6_blame 1 I) (fun (r_1 : Int32) (I_2 : e_I) =>
  e_as (r_1 = 0 ∨ r_1 = 1) (
  some (r_1, I_2)))
set_option maxRecDepth 100000 in
set_option maxHeartbeats 4000000 in
theorem Zf_X6_readName_38 {X : e_X} (hC : e_C X cX6_readName RX6 1 (some .boolean) 3 gN) (L : e_L) (I : e_I) : Zo X (ph_iI L) (f_X6_readName_38 I) 38 [(0, .ref 1)] [] I L := by
  unfold f_X6_readName_38
  refine zo_aload_n hC dX6_readName_38 rfl 0 rfl ?_
  refine zo_iconst (v := 1) hC (by decide) dX6_readName_39 ?_
  refine zo_callV_iI hC (ci := 6) [.int 1] [] me_X6_blame mlX6_72 im_X6_blame se_X6_blame rfl (by decide) at_1 (fun p hp => T_X6_blame 1 I L p hp) (by decide) rfl (Nat.le_of_ble_eq_true rfl) dX6_readName_40 rfl (fun r_1 I_2 => ?_)
  refine zo_as (fun h_3 => ?_)
  exact zo_zret hC h_3 rfl dX6_readName_43

def f_X6_readName (I : e_I) : Option (Int32 × e_I) :=
  if (I 1 4) < 9 then (
    e_b1 (f_X6_step I) (fun (I_2 : e_I) =>
    if (I_2 1 11) ≠ 0 then (
      f_X6_readName_38 I_2)
    else (
      e_b1 (f_X6_keyOf (I_2 1 12) I_2) (fun (r_4 : Int32) =>
      if r_4 = (-1) then (
        e_b1 (f_X6_isName (I_2 1 12) I_2) (fun (r_6 : Int32) =>
        if r_6 = 0 then (
          e_as (e_ix (I_2 1 4) 9 = true) (
          e_let (e_ui I_2 2 (I_2 1 4).toNatClampNeg (I_2 1 12)) (fun (I_9 : e_I) =>
          some (1, I_9))))
        else (
          e_b2 (f_X6_blame 3 I_2) (fun (r_10 : Int32) (I_11 : e_I) =>
          e_as (r_10 = 0 ∨ r_10 = 1) (
          some (r_10, I_11))))))
      else (
        f_X6_readName_38 I_2)))))
  else (
    e_b2 (f_X6_blame 4 I) (fun (r_13 : Int32) (I_14 : e_I) =>
    e_as (r_13 = 0 ∨ r_13 = 1) (
    some (r_13, I_14))))
set_option maxRecDepth 100000 in
set_option maxHeartbeats 4000000 in
theorem Zf_X6_readName {X : e_X} (hC : e_C X cX6_readName RX6 1 (some .boolean) 3 gN) (I : e_I) (L : e_L) : Zo X (ph_iI L) (f_X6_readName I) 0 [(0, .ref 1)] [] I L := by
  unfold f_X6_readName
  refine zo_aload_n hC dX6_readName_0 rfl 0 rfl ?_
  refine zo_getI hC fk6_69 at_1 dX6_readName_1 ?_
  refine zo_bipush (v := 9) hC (by decide) dX6_readName_4 ?_
  refine zo_icmp_lt (tgt := 15) hC dX6_readName_6 (by decide) (fun c_1 => ?_) (fun c_1 => ?_)
  · refine zo_aload_n hC dX6_readName_15 rfl 0 rfl ?_
    refine zo_callV_vI hC (ci := 6) [] [] me_X6_step mlX6_76 im_X6_step se_X6_step rfl (by decide) at_1 (fun p hp => T_X6_step I L p hp) (by decide) rfl (Nat.le_of_ble_eq_true rfl) dX6_readName_16 rfl (fun I_2 => ?_)
    refine zo_aload_n hC dX6_readName_19 rfl 0 rfl ?_
    refine zo_getI hC fk6_79 at_1 dX6_readName_20 ?_
    refine zo_if_ne (tgt := 38) hC dX6_readName_23 (by decide) (fun c_3 => ?_) (fun c_3 => ?_)
    · exact Zf_X6_readName_38 hC L I_2
    · refine zo_aload_n hC dX6_readName_26 rfl 0 rfl ?_
      refine zo_aload_n hC dX6_readName_27 rfl 0 rfl ?_
      refine zo_getI hC fk6_82 at_1 dX6_readName_28 ?_
      refine zo_callV_i hC (ci := 6) [.int (I_2 1 12)] [] me_X6_keyOf mlX6_100 im_X6_keyOf se_X6_keyOf rfl (by decide) at_1 (fun p hp => T_X6_keyOf (I_2 1 12) I_2 L p hp) (by decide) rfl (Nat.le_of_ble_eq_true rfl) dX6_readName_31 rfl (fun r_4 => ?_)
      refine zo_iconst (v := (-1)) hC (by decide) dX6_readName_34 ?_
      refine zo_icmp_eq (tgt := 44) hC dX6_readName_35 (by decide) (fun c_5 => ?_) (fun c_5 => ?_)
      · refine zo_aload_n hC dX6_readName_44 rfl 0 rfl ?_
        refine zo_aload_n hC dX6_readName_45 rfl 0 rfl ?_
        refine zo_getI hC fk6_82 at_1 dX6_readName_46 ?_
        refine zo_callV_i hC (ci := 6) [.int (I_2 1 12)] [] me_X6_isName mlX6_113 im_X6_isName se_X6_isName rfl (by decide) at_1 (fun p hp => T_X6_isName (I_2 1 12) I_2 L p hp) (by decide) rfl (Nat.le_of_ble_eq_true rfl) dX6_readName_49 rfl (fun r_6 => ?_)
        refine zo_if_eq (tgt := 61) hC dX6_readName_52 (by decide) (fun c_7 => ?_) (fun c_7 => ?_)
        · refine zo_aload_n hC dX6_readName_61 rfl 0 rfl ?_
          refine zo_getR hC (r := 2) fk6_9 (by decide) gr_1_0 at_1 dX6_readName_62 ?_
          refine zo_aload_n hC dX6_readName_65 rfl 0 rfl ?_
          refine zo_getI hC fk6_69 at_1 dX6_readName_66 ?_
          refine zo_aload_n hC dX6_readName_69 rfl 0 rfl ?_
          refine zo_getI hC fk6_82 at_1 dX6_readName_70 ?_
          refine zo_as (fun h_8 => ?_)
          refine zo_iast hC ar_2 (e_ix_vp h_8) dX6_readName_73 ?_
          refine zo_topI (fun I_9 => ?_)
          refine zo_iconst (v := 1) hC (by decide) dX6_readName_74 ?_
          exact zo_zret hC (by decide) rfl dX6_readName_75
        · refine zo_aload_n hC dX6_readName_55 rfl 0 rfl ?_
          refine zo_iconst (v := 3) hC (by decide) dX6_readName_56 ?_
          refine zo_callV_iI hC (ci := 6) [.int 3] [] me_X6_blame mlX6_72 im_X6_blame se_X6_blame rfl (by decide) at_1 (fun p hp => T_X6_blame 3 I_2 L p hp) (by decide) rfl (Nat.le_of_ble_eq_true rfl) dX6_readName_57 rfl (fun r_10 I_11 => ?_)
          refine zo_as (fun h_12 => ?_)
          exact zo_zret hC h_12 rfl dX6_readName_60
      · exact Zf_X6_readName_38 hC L I_2
  · refine zo_aload_n hC dX6_readName_9 rfl 0 rfl ?_
    refine zo_iconst (v := 4) hC (by decide) dX6_readName_10 ?_
    refine zo_callV_iI hC (ci := 6) [.int 4] [] me_X6_blame mlX6_72 im_X6_blame se_X6_blame rfl (by decide) at_1 (fun p hp => T_X6_blame 4 I L p hp) (by decide) rfl (Nat.le_of_ble_eq_true rfl) dX6_readName_11 rfl (fun r_13 I_14 => ?_)
    refine zo_as (fun h_15 => ?_)
    exact zo_zret hC h_15 rfl dX6_readName_14

theorem T_X6_readName (I : e_I) (L : e_L) (p : Int32 × e_I) (hp : f_X6_readName I = some p) : Mt yX6_readName cX6_readName 1 (some .boolean) 3 gN [.ref 1] I L ((ph_iI L) p) := zo_enter hp (by decide) (Nat.le_of_ble_eq_true rfl) (fun X hC => Zf_X6_readName hC I L)
def f_X7_isRule (v0 : Int32) (v1 : Int32) : Option (Int32) :=
  if v0 = 0 then (
    e_b1 (f_X7_within v1 1 2) (fun (r_2 : Int32) =>
    e_as (r_2 = 0 ∨ r_2 = 1) (
    some r_2)))
  else (
  if v0 = 1 then (
    e_b1 (f_X7_within v1 2 3) (fun (r_5 : Int32) =>
    e_as (r_5 = 0 ∨ r_5 = 1) (
    some r_5)))
  else (
  if v0 = 2 then (
    e_b1 (f_X7_within v1 0 1) (fun (r_8 : Int32) =>
    e_as (r_8 = 0 ∨ r_8 = 1) (
    some r_8)))
  else (
  if v0 = 3 then (
    e_b1 (f_X7_within v1 0 20) (fun (r_11 : Int32) =>
    e_as (r_11 = 0 ∨ r_11 = 1) (
    some r_11)))
  else (
  if v0 = 4 then (
    e_b1 (f_X7_within v1 1 99) (fun (r_14 : Int32) =>
    e_as (r_14 = 0 ∨ r_14 = 1) (
    some r_14)))
  else (
  some 0)))))
set_option maxRecDepth 100000 in
set_option maxHeartbeats 4000000 in
theorem Zf_X7_isRule {X : e_X} (hC : e_C X cX7_isRule RX7 2 (some .boolean) 1 gN) (v0 : Int32) (v1 : Int32) (I : e_I) (L : e_L) : Zo X (ph_i I L) (f_X7_isRule v0 v1) 0 [(0, .int v0), (1, .int v1)] [] I L := by
  unfold f_X7_isRule
  refine zo_iload_n hC dX7_isRule_0 rfl 0 rfl ?_
  refine zo_ite (fun c_1 => ?_) (fun c_1 => ?_)
  · refine zo_tsw_in (tgt := 36) hC dX7_isRule_1 (by rw [c_1]; decide) (by rw [c_1]; decide) (by rw [c_1]; rfl) (by decide) ?_
    refine zo_iload_n hC dX7_isRule_36 rfl 1 rfl ?_
    refine zo_iconst (v := 1) hC (by decide) dX7_isRule_37 ?_
    refine zo_iconst (v := 2) hC (by decide) dX7_isRule_38 ?_
    refine zo_callS_i hC [.int v1, .int 1, .int 2] [] me_X7_within mlX7_66 sm_X7_within (fun p hp => T_X7_within v1 1 2 I L p hp) (by decide) rfl (Nat.le_of_ble_eq_true rfl) dX7_isRule_39 rfl (fun r_2 => ?_)
    refine zo_as (fun h_3 => ?_)
    exact zo_zret hC h_3 rfl dX7_isRule_42
  refine zo_ite (fun c_4 => ?_) (fun c_4 => ?_)
  · refine zo_tsw_in (tgt := 43) hC dX7_isRule_1 (by rw [c_4]; decide) (by rw [c_4]; decide) (by rw [c_4]; rfl) (by decide) ?_
    refine zo_iload_n hC dX7_isRule_43 rfl 1 rfl ?_
    refine zo_iconst (v := 2) hC (by decide) dX7_isRule_44 ?_
    refine zo_iconst (v := 3) hC (by decide) dX7_isRule_45 ?_
    refine zo_callS_i hC [.int v1, .int 2, .int 3] [] me_X7_within mlX7_66 sm_X7_within (fun p hp => T_X7_within v1 2 3 I L p hp) (by decide) rfl (Nat.le_of_ble_eq_true rfl) dX7_isRule_46 rfl (fun r_5 => ?_)
    refine zo_as (fun h_6 => ?_)
    exact zo_zret hC h_6 rfl dX7_isRule_49
  refine zo_ite (fun c_7 => ?_) (fun c_7 => ?_)
  · refine zo_tsw_in (tgt := 50) hC dX7_isRule_1 (by rw [c_7]; decide) (by rw [c_7]; decide) (by rw [c_7]; rfl) (by decide) ?_
    refine zo_iload_n hC dX7_isRule_50 rfl 1 rfl ?_
    refine zo_iconst (v := 0) hC (by decide) dX7_isRule_51 ?_
    refine zo_iconst (v := 1) hC (by decide) dX7_isRule_52 ?_
    refine zo_callS_i hC [.int v1, .int 0, .int 1] [] me_X7_within mlX7_66 sm_X7_within (fun p hp => T_X7_within v1 0 1 I L p hp) (by decide) rfl (Nat.le_of_ble_eq_true rfl) dX7_isRule_53 rfl (fun r_8 => ?_)
    refine zo_as (fun h_9 => ?_)
    exact zo_zret hC h_9 rfl dX7_isRule_56
  refine zo_ite (fun c_10 => ?_) (fun c_10 => ?_)
  · refine zo_tsw_in (tgt := 57) hC dX7_isRule_1 (by rw [c_10]; decide) (by rw [c_10]; decide) (by rw [c_10]; rfl) (by decide) ?_
    refine zo_iload_n hC dX7_isRule_57 rfl 1 rfl ?_
    refine zo_iconst (v := 0) hC (by decide) dX7_isRule_58 ?_
    refine zo_bipush (v := 20) hC (by decide) dX7_isRule_59 ?_
    refine zo_callS_i hC [.int v1, .int 0, .int 20] [] me_X7_within mlX7_66 sm_X7_within (fun p hp => T_X7_within v1 0 20 I L p hp) (by decide) rfl (Nat.le_of_ble_eq_true rfl) dX7_isRule_61 rfl (fun r_11 => ?_)
    refine zo_as (fun h_12 => ?_)
    exact zo_zret hC h_12 rfl dX7_isRule_64
  refine zo_ite (fun c_13 => ?_) (fun c_13 => ?_)
  · refine zo_tsw_in (tgt := 65) hC dX7_isRule_1 (by rw [c_13]; decide) (by rw [c_13]; decide) (by rw [c_13]; rfl) (by decide) ?_
    refine zo_iload_n hC dX7_isRule_65 rfl 1 rfl ?_
    refine zo_iconst (v := 1) hC (by decide) dX7_isRule_66 ?_
    refine zo_bipush (v := 99) hC (by decide) dX7_isRule_67 ?_
    refine zo_callS_i hC [.int v1, .int 1, .int 99] [] me_X7_within mlX7_66 sm_X7_within (fun p hp => T_X7_within v1 1 99 I L p hp) (by decide) rfl (Nat.le_of_ble_eq_true rfl) dX7_isRule_69 rfl (fun r_14 => ?_)
    refine zo_as (fun h_15 => ?_)
    exact zo_zret hC h_15 rfl dX7_isRule_72
  refine zo_tsw_out (tgt := 73) hC dX7_isRule_1 (by have q0 := e_sw (n := 0) (by decide) (by decide) c_1; have q1 := e_sw (n := 1) (by decide) (by decide) c_4; have q2 := e_sw (n := 2) (by decide) (by decide) c_7; have q3 := e_sw (n := 3) (by decide) (by decide) c_10; have q4 := e_sw (n := 4) (by decide) (by decide) c_13; omega) (by decide) ?_
  refine zo_iconst (v := 0) hC (by decide) dX7_isRule_73 ?_
  exact zo_zret hC (by decide) rfl dX7_isRule_74

theorem T_X7_isRule (v0 : Int32) (v1 : Int32) (I : e_I) (L : e_L) (p : Int32) (hp : f_X7_isRule v0 v1 = some p) : Mt yX7_isRule cX7_isRule 2 (some .boolean) 1 gN [.int v0, .int v1] I L ((ph_i I L) p) := zo_enter hp (by decide) (Nat.le_of_ble_eq_true rfl) (fun X hC => Zf_X7_isRule hC v0 v1 I L)
def f_X6_readRule (v1 : Int32) (I : e_I) : Option (Int32 × e_I) :=
  e_as (e_ix v1 5 = true) (
  if (I 7 v1.toNatClampNeg) = 0 then (
    e_as (e_ix v1 5 = true) (
    e_let (e_ui I 7 v1.toNatClampNeg (vp_nar .boolean 1)) (fun (I_4 : e_I) =>
    e_b1 (f_X6_step I_4) (fun (I_5 : e_I) =>
    if (I_5 1 11) = 1 then (
      e_b1 (f_X7_isRule v1 (I_5 1 12)) (fun (r_7 : Int32) =>
      if r_7 ≠ 0 then (
        e_as (e_ix v1 5 = true) (
        e_let (e_ui I_5 4 v1.toNatClampNeg (I_5 1 12)) (fun (I_10 : e_I) =>
        some (1, I_10))))
      else (
        e_b2 (f_X6_blame 2 I_5) (fun (r_11 : Int32) (I_12 : e_I) =>
        e_as (r_11 = 0 ∨ r_11 = 1) (
        some (r_11, I_12))))))
    else (
      e_b2 (f_X6_blame 1 I_5) (fun (r_14 : Int32) (I_15 : e_I) =>
      e_as (r_14 = 0 ∨ r_14 = 1) (
      some (r_14, I_15))))))))
  else (
    e_b2 (f_X6_blame 3 I) (fun (r_17 : Int32) (I_18 : e_I) =>
    e_as (r_17 = 0 ∨ r_17 = 1) (
    some (r_17, I_18)))))
set_option maxRecDepth 100000 in
set_option maxHeartbeats 4000000 in
theorem Zf_X6_readRule {X : e_X} (hC : e_C X cX6_readRule RX6 2 (some .boolean) 3 gN) (v1 : Int32) (I : e_I) (L : e_L) : Zo X (ph_iI L) (f_X6_readRule v1 I) 0 [(0, .ref 1), (1, .int v1)] [] I L := by
  unfold f_X6_readRule
  refine zo_aload_n hC dX6_readRule_0 rfl 0 rfl ?_
  refine zo_getR hC (r := 7) fk6_44 (by decide) gr_1_8 at_1 dX6_readRule_1 ?_
  refine zo_iload_n hC dX6_readRule_4 rfl 1 rfl ?_
  refine zo_as (fun h_1 => ?_)
  refine zo_zald hC ar_7 (e_ix_vp h_1) dX6_readRule_5 ?_
  refine zo_if_eq (tgt := 15) hC dX6_readRule_6 (by decide) (fun c_2 => ?_) (fun c_2 => ?_)
  · refine zo_aload_n hC dX6_readRule_15 rfl 0 rfl ?_
    refine zo_getR hC (r := 7) fk6_44 (by decide) gr_1_8 at_1 dX6_readRule_16 ?_
    refine zo_iload_n hC dX6_readRule_19 rfl 1 rfl ?_
    refine zo_iconst (v := 1) hC (by decide) dX6_readRule_20 ?_
    refine zo_as (fun h_3 => ?_)
    refine zo_zast hC ar_7 (e_ix_vp h_3) dX6_readRule_21 ?_
    refine zo_topI (fun I_4 => ?_)
    refine zo_aload_n hC dX6_readRule_22 rfl 0 rfl ?_
    refine zo_callV_vI hC (ci := 6) [] [] me_X6_step mlX6_76 im_X6_step se_X6_step rfl (by decide) at_1 (fun p hp => T_X6_step I_4 L p hp) (by decide) rfl (Nat.le_of_ble_eq_true rfl) dX6_readRule_23 rfl (fun I_5 => ?_)
    refine zo_aload_n hC dX6_readRule_26 rfl 0 rfl ?_
    refine zo_getI hC fk6_79 at_1 dX6_readRule_27 ?_
    refine zo_iconst (v := 1) hC (by decide) dX6_readRule_30 ?_
    refine zo_icmp_eq (tgt := 40) hC dX6_readRule_31 (by decide) (fun c_6 => ?_) (fun c_6 => ?_)
    · refine zo_iload_n hC dX6_readRule_40 rfl 1 rfl ?_
      refine zo_aload_n hC dX6_readRule_41 rfl 0 rfl ?_
      refine zo_getI hC fk6_82 at_1 dX6_readRule_42 ?_
      refine zo_callSN_i hC [.int v1, .int (I_5 1 12)] [] me_X7_isRule (List.mem_of_getElem? (i := 13) rfl) sm_X7_isRule (fun p hp => T_X7_isRule v1 (I_5 1 12) I_5 L p hp) (by decide) rfl (Nat.le_of_ble_eq_true rfl) dX6_readRule_45 rfl (fun r_7 => ?_)
      refine zo_if_ne (tgt := 57) hC dX6_readRule_48 (by decide) (fun c_8 => ?_) (fun c_8 => ?_)
      · refine zo_aload_n hC dX6_readRule_57 rfl 0 rfl ?_
        refine zo_getR hC (r := 4) fk6_18 (by decide) gr_1_2 at_1 dX6_readRule_58 ?_
        refine zo_iload_n hC dX6_readRule_61 rfl 1 rfl ?_
        refine zo_aload_n hC dX6_readRule_62 rfl 0 rfl ?_
        refine zo_getI hC fk6_82 at_1 dX6_readRule_63 ?_
        refine zo_as (fun h_9 => ?_)
        refine zo_iast hC ar_4 (e_ix_vp h_9) dX6_readRule_66 ?_
        refine zo_topI (fun I_10 => ?_)
        refine zo_iconst (v := 1) hC (by decide) dX6_readRule_67 ?_
        exact zo_zret hC (by decide) rfl dX6_readRule_68
      · refine zo_aload_n hC dX6_readRule_51 rfl 0 rfl ?_
        refine zo_iconst (v := 2) hC (by decide) dX6_readRule_52 ?_
        refine zo_callV_iI hC (ci := 6) [.int 2] [] me_X6_blame mlX6_72 im_X6_blame se_X6_blame rfl (by decide) at_1 (fun p hp => T_X6_blame 2 I_5 L p hp) (by decide) rfl (Nat.le_of_ble_eq_true rfl) dX6_readRule_53 rfl (fun r_11 I_12 => ?_)
        refine zo_as (fun h_13 => ?_)
        exact zo_zret hC h_13 rfl dX6_readRule_56
    · refine zo_aload_n hC dX6_readRule_34 rfl 0 rfl ?_
      refine zo_iconst (v := 1) hC (by decide) dX6_readRule_35 ?_
      refine zo_callV_iI hC (ci := 6) [.int 1] [] me_X6_blame mlX6_72 im_X6_blame se_X6_blame rfl (by decide) at_1 (fun p hp => T_X6_blame 1 I_5 L p hp) (by decide) rfl (Nat.le_of_ble_eq_true rfl) dX6_readRule_36 rfl (fun r_14 I_15 => ?_)
      refine zo_as (fun h_16 => ?_)
      exact zo_zret hC h_16 rfl dX6_readRule_39
  · refine zo_aload_n hC dX6_readRule_9 rfl 0 rfl ?_
    refine zo_iconst (v := 3) hC (by decide) dX6_readRule_10 ?_
    refine zo_callV_iI hC (ci := 6) [.int 3] [] me_X6_blame mlX6_72 im_X6_blame se_X6_blame rfl (by decide) at_1 (fun p hp => T_X6_blame 3 I L p hp) (by decide) rfl (Nat.le_of_ble_eq_true rfl) dX6_readRule_11 rfl (fun r_17 I_18 => ?_)
    refine zo_as (fun h_19 => ?_)
    exact zo_zret hC h_19 rfl dX6_readRule_14

theorem T_X6_readRule (v1 : Int32) (I : e_I) (L : e_L) (p : Int32 × e_I) (hp : f_X6_readRule v1 I = some p) : Mt yX6_readRule cX6_readRule 2 (some .boolean) 3 gN [.ref 1, .int v1] I L ((ph_iI L) p) := zo_enter hp (by decide) (Nat.le_of_ble_eq_true rfl) (fun X hC => Zf_X6_readRule hC v1 I L)
def f_X6_readLine_48 (s0 : Int32) (I : e_I) : Option (Int32 × e_I) :=
  e_as (s0 = 0 ∨ s0 = 1) (
  some (s0, I))
set_option maxRecDepth 100000 in
set_option maxHeartbeats 4000000 in
theorem Zf_X6_readLine_48 {X : e_X} (hC : e_C X cX6_readLine RX6 2 (some .boolean) 4 gN) (L : e_L) (s0 : Int32) (I : e_I) : Zo X (ph_iI L) (f_X6_readLine_48 s0 I) 48 [] [.int s0] I L := by
  unfold f_X6_readLine_48
  refine zo_as (fun h_1 => ?_)
  exact zo_zret hC h_1 rfl dX6_readLine_48

def f_X6_readLine_47 (I : e_I) : Option (Int32 × e_I) :=
  f_X6_readLine_48 0 I
set_option maxRecDepth 100000 in
set_option maxHeartbeats 4000000 in
theorem Zf_X6_readLine_47 {X : e_X} (hC : e_C X cX6_readLine RX6 2 (some .boolean) 4 gN) (L : e_L) (I : e_I) : Zo X (ph_iI L) (f_X6_readLine_47 I) 47 [] [] I L := by
  unfold f_X6_readLine_47
  refine zo_iconst (v := 0) hC (by decide) dX6_readLine_47 ?_
  exact Zf_X6_readLine_48 hC L 0 I

def f_X6_readLine_71 (s0 : Int32) (I : e_I) : Option (Int32 × e_I) :=
  e_as (s0 = 0 ∨ s0 = 1) (
  some (s0, I))
set_option maxRecDepth 100000 in
set_option maxHeartbeats 4000000 in
theorem Zf_X6_readLine_71 {X : e_X} (hC : e_C X cX6_readLine RX6 2 (some .boolean) 4 gN) (L : e_L) (s0 : Int32) (I : e_I) : Zo X (ph_iI L) (f_X6_readLine_71 s0 I) 71 [] [.int s0] I L := by
  unfold f_X6_readLine_71
  refine zo_as (fun h_1 => ?_)
  exact zo_zret hC h_1 rfl dX6_readLine_71

def f_X6_readLine_66 (I : e_I) : Option (Int32 × e_I) :=
  e_b2 (f_X6_blame 1 I) (fun (r_1 : Int32) (I_2 : e_I) =>
  f_X6_readLine_71 r_1 I_2)
set_option maxRecDepth 100000 in
set_option maxHeartbeats 4000000 in
theorem Zf_X6_readLine_66 {X : e_X} (hC : e_C X cX6_readLine RX6 2 (some .boolean) 4 gN) (L : e_L) (I : e_I) : Zo X (ph_iI L) (f_X6_readLine_66 I) 66 [(0, .ref 1)] [] I L := by
  unfold f_X6_readLine_66
  refine zo_aload_n hC dX6_readLine_66 rfl 0 rfl ?_
  refine zo_iconst (v := 1) hC (by decide) dX6_readLine_67 ?_
  refine zo_callV_iI hC (ci := 6) [.int 1] [] me_X6_blame mlX6_72 im_X6_blame se_X6_blame rfl (by decide) at_1 (fun p hp => T_X6_blame 1 I L p hp) (by decide) rfl (Nat.le_of_ble_eq_true rfl) dX6_readLine_68 rfl (fun r_1 I_2 => ?_)
  refine zo_sub [] (lv' := []) rfl ?_
  exact Zf_X6_readLine_71 hC L r_1 I_2

def f_X6_readLine_23 (s0 : Int32) (I : e_I) : Option (Int32 × e_I) :=
  if s0 ≠ 5 then (
    if s0 < 0 then (
      f_X6_readLine_66 I)
    else (
      if s0 ≥ 5 then (
        f_X6_readLine_66 I)
      else (
        e_b2 (f_X6_readRule s0 I) (fun (r_4 : Int32) (I_5 : e_I) =>
        f_X6_readLine_71 r_4 I_5))))
  else (
    e_b2 (f_X6_readName I) (fun (r_6 : Int32) (I_7 : e_I) =>
    if r_6 = 0 then (
      f_X6_readLine_47 I_7)
    else (
      e_b2 (f_X6_readChances I_7) (fun (r_9 : Int32) (I_10 : e_I) =>
      if r_9 = 0 then (
        f_X6_readLine_47 I_10)
      else (
        f_X6_readLine_48 1 I_10)))))
set_option maxRecDepth 100000 in
set_option maxHeartbeats 4000000 in
theorem Zf_X6_readLine_23 {X : e_X} (hC : e_C X cX6_readLine RX6 2 (some .boolean) 4 gN) (L : e_L) (s0 : Int32) (I : e_I) : Zo X (ph_iI L) (f_X6_readLine_23 s0 I) 23 [(0, .ref 1)] [.int s0] I L := by
  unfold f_X6_readLine_23
  refine zo_istore_n (lv' := [(1, .int s0), (0, .ref 1)]) hC dX6_readLine_23 rfl (by decide) rfl ?_
  refine zo_iload_n hC dX6_readLine_24 rfl 0 rfl ?_
  refine zo_iconst (v := 5) hC (by decide) dX6_readLine_25 ?_
  refine zo_icmp_ne (tgt := 49) hC dX6_readLine_26 (by decide) (fun c_1 => ?_) (fun c_1 => ?_)
  · refine zo_iload_n hC dX6_readLine_49 rfl 0 rfl ?_
    refine zo_if_lt (tgt := 66) hC dX6_readLine_50 (by decide) (fun c_2 => ?_) (fun c_2 => ?_)
    · refine zo_sub [1] (lv' := [(0, .ref 1)]) rfl ?_
      exact Zf_X6_readLine_66 hC L I
    · refine zo_iload_n hC dX6_readLine_53 rfl 0 rfl ?_
      refine zo_iconst (v := 5) hC (by decide) dX6_readLine_54 ?_
      refine zo_icmp_ge (tgt := 66) hC dX6_readLine_55 (by decide) (fun c_3 => ?_) (fun c_3 => ?_)
      · refine zo_sub [1] (lv' := [(0, .ref 1)]) rfl ?_
        exact Zf_X6_readLine_66 hC L I
      · refine zo_aload_n hC dX6_readLine_58 rfl 1 rfl ?_
        refine zo_iload_n hC dX6_readLine_59 rfl 0 rfl ?_
        refine zo_callV_iI hC (ci := 6) [.int s0] [] me_X6_readRule mlX6_110 im_X6_readRule se_X6_readRule rfl (by decide) at_1 (fun p hp => T_X6_readRule s0 I L p hp) (by decide) rfl (Nat.le_of_ble_eq_true rfl) dX6_readLine_60 rfl (fun r_4 I_5 => ?_)
        refine zo_goto (tgt := 71) hC dX6_readLine_63 (by decide) ?_
        refine zo_sub [] (lv' := []) rfl ?_
        exact Zf_X6_readLine_71 hC L r_4 I_5
  · refine zo_aload_n hC dX6_readLine_29 rfl 1 rfl ?_
    refine zo_callV_iI hC (ci := 6) [] [] me_X6_readName mlX6_104 im_X6_readName se_X6_readName rfl (by decide) at_1 (fun p hp => T_X6_readName I L p hp) (by decide) rfl (Nat.le_of_ble_eq_true rfl) dX6_readLine_30 rfl (fun r_6 I_7 => ?_)
    refine zo_if_eq (tgt := 47) hC dX6_readLine_33 (by decide) (fun c_8 => ?_) (fun c_8 => ?_)
    · refine zo_sub [] (lv' := []) rfl ?_
      exact Zf_X6_readLine_47 hC L I_7
    · refine zo_aload_n hC dX6_readLine_36 rfl 1 rfl ?_
      refine zo_callV_iI hC (ci := 6) [] [] me_X6_readChances mlX6_107 im_X6_readChances se_X6_readChances rfl (by decide) at_1 (fun p hp => T_X6_readChances I_7 L p hp) (by decide) rfl (Nat.le_of_ble_eq_true rfl) dX6_readLine_37 rfl (fun r_9 I_10 => ?_)
      refine zo_if_eq (tgt := 47) hC dX6_readLine_40 (by decide) (fun c_11 => ?_) (fun c_11 => ?_)
      · refine zo_sub [] (lv' := []) rfl ?_
        exact Zf_X6_readLine_47 hC L I_10
      · refine zo_iconst (v := 1) hC (by decide) dX6_readLine_43 ?_
        refine zo_goto (tgt := 48) hC dX6_readLine_44 (by decide) ?_
        refine zo_sub [] (lv' := []) rfl ?_
        exact Zf_X6_readLine_48 hC L 1 I_10

def f_X6_readLine (I : e_I) : Option (Int32 × e_I) :=
  e_b1 (f_X6_step I) (fun (I_1 : e_I) =>
  if (I_1 1 11) ≠ 0 then (
    f_X6_readLine_23 (-1) I_1)
  else (
    e_b1 (f_X6_keyOf (I_1 1 12) I_1) (fun (r_3 : Int32) =>
    f_X6_readLine_23 r_3 I_1)))
set_option maxRecDepth 100000 in
set_option maxHeartbeats 4000000 in
theorem Zf_X6_readLine {X : e_X} (hC : e_C X cX6_readLine RX6 2 (some .boolean) 4 gN) (I : e_I) (L : e_L) : Zo X (ph_iI L) (f_X6_readLine I) 0 [(0, .ref 1)] [] I L := by
  unfold f_X6_readLine
  refine zo_aload_n hC dX6_readLine_0 rfl 0 rfl ?_
  refine zo_callV_vI hC (ci := 6) [] [] me_X6_step mlX6_76 im_X6_step se_X6_step rfl (by decide) at_1 (fun p hp => T_X6_step I L p hp) (by decide) rfl (Nat.le_of_ble_eq_true rfl) dX6_readLine_1 rfl (fun I_1 => ?_)
  refine zo_aload_n hC dX6_readLine_4 rfl 0 rfl ?_
  refine zo_getI hC fk6_79 at_1 dX6_readLine_5 ?_
  refine zo_if_ne (tgt := 22) hC dX6_readLine_8 (by decide) (fun c_2 => ?_) (fun c_2 => ?_)
  · refine zo_iconst (v := (-1)) hC (by decide) dX6_readLine_22 ?_
    exact Zf_X6_readLine_23 hC L (-1) I_1
  · refine zo_aload_n hC dX6_readLine_11 rfl 0 rfl ?_
    refine zo_aload_n hC dX6_readLine_12 rfl 0 rfl ?_
    refine zo_getI hC fk6_82 at_1 dX6_readLine_13 ?_
    refine zo_callV_i hC (ci := 6) [.int (I_1 1 12)] [] me_X6_keyOf mlX6_100 im_X6_keyOf se_X6_keyOf rfl (by decide) at_1 (fun p hp => T_X6_keyOf (I_1 1 12) I_1 L p hp) (by decide) rfl (Nat.le_of_ble_eq_true rfl) dX6_readLine_16 rfl (fun r_3 => ?_)
    refine zo_goto (tgt := 23) hC dX6_readLine_19 (by decide) ?_
    exact Zf_X6_readLine_23 hC L r_3 I_1

theorem T_X6_readLine (I : e_I) (L : e_L) (p : Int32 × e_I) (hp : f_X6_readLine I = some p) : Mt yX6_readLine cX6_readLine 2 (some .boolean) 4 gN [.ref 1] I L ((ph_iI L) p) := zo_enter hp (by decide) (Nat.le_of_ble_eq_true rfl) (fun X hC => Zf_X6_readLine hC I L)
def f_X6_startAt (v1 : Int32) (I : e_I) : Option (e_I) :=
  e_let (e_ui I 1 9 (e_max 0 (e_min v1 (I 1 3)))) (fun (I_1 : e_I) =>
  e_let (e_ui I_1 1 10 0) (fun (I_2 : e_I) =>
  e_let (e_ui I_2 1 13 0) (fun (I_3 : e_I) =>
  some I_3)))
set_option maxRecDepth 100000 in
set_option maxHeartbeats 4000000 in
theorem Zf_X6_startAt {X : e_X} (hC : e_C X cX6_startAt RX6 2 none 0 gN) (v1 : Int32) (I : e_I) (L : e_L) : Zo X (ph_vI L) (f_X6_startAt v1 I) 0 [(0, .ref 1), (1, .int v1)] [] I L := by
  unfold f_X6_startAt
  refine zo_aload_n hC dX6_startAt_0 rfl 0 rfl ?_
  refine zo_iconst (v := 0) hC (by decide) dX6_startAt_1 ?_
  refine zo_iload_n hC dX6_startAt_2 rfl 1 rfl ?_
  refine zo_aload_n hC dX6_startAt_3 rfl 0 rfl ?_
  refine zo_getI hC fk6_48 at_1 dX6_startAt_4 ?_
  refine zo_mmin_ hC mlX6_85 st_mmin in_Math cd_mmin (Nat.le_of_ble_eq_true rfl) dX6_startAt_7 ?_
  refine zo_mmax_ hC mlX6_91 st_mmax in_Math cd_mmax (Nat.le_of_ble_eq_true rfl) dX6_startAt_10 ?_
  refine zo_putI hC fk6_94 ff6_9 at_1 dX6_startAt_13 ?_
  refine zo_topI (fun I_1 => ?_)
  refine zo_aload_n hC dX6_startAt_16 rfl 0 rfl ?_
  refine zo_iconst (v := 0) hC (by decide) dX6_startAt_17 ?_
  refine zo_putI hC fk6_97 ff6_10 at_1 dX6_startAt_18 ?_
  refine zo_topI (fun I_2 => ?_)
  refine zo_aload_n hC dX6_startAt_21 rfl 0 rfl ?_
  refine zo_iconst (v := 0) hC (by decide) dX6_startAt_22 ?_
  refine zo_putI hC fk6_66 ff6_13 at_1 dX6_startAt_23 ?_
  refine zo_topI (fun I_3 => ?_)
  exact zo_vret hC rfl dX6_startAt_26

theorem T_X6_startAt (v1 : Int32) (I : e_I) (L : e_L) (p : e_I) (hp : f_X6_startAt v1 I = some p) : Mt yX6_startAt cX6_startAt 2 none 0 gN [.ref 1, .int v1] I L ((ph_vI L) p) := zo_enter hp (by decide) (Nat.le_of_ble_eq_true rfl) (fun X hC => Zf_X6_startAt hC v1 I L)
def f_X6_read_41 (v1 : Int32) (k13 : Int32 → Int32 → e_I → Option (Int32 × e_I)) (k48 : e_I → Option (Int32 × e_I)) (v3 : Int32) (s0 : Int32) (I : e_I) : Option (Int32 × e_I) :=
  e_let (v3 + 1) (fun (x_1 : Int32) =>
  k13 s0 x_1 I)
set_option maxRecDepth 100000 in
set_option maxHeartbeats 4000000 in
theorem Zf_X6_read_41 {X : e_X} (hC : e_C X cX6_read RX6 4 (some .int) 5 gN) (L : e_L) (v1 : Int32) (k13 : Int32 → Int32 → e_I → Option (Int32 × e_I)) (k48 : e_I → Option (Int32 × e_I)) (hk13 : ∀ (v2 : Int32) (v3 : Int32) (I : e_I), Zo X (ph_iI L) (k13 v2 v3 I) 13 [(0, .ref 1), (1, .int v1), (2, .int v2), (3, .int v3)] [] I L) (hk48 : ∀ (I : e_I), Zo X (ph_iI L) (k48 I) 48 [(0, .ref 1)] [] I L) (v3 : Int32) (s0 : Int32) (I : e_I) : Zo X (ph_iI L) (f_X6_read_41 v1 k13 k48 v3 s0 I) 41 [(0, .ref 1), (1, .int v1), (3, .int v3)] [.int s0] I L := by
  unfold f_X6_read_41
  refine zo_istore_n (lv' := [(2, .int s0), (0, .ref 1), (1, .int v1), (3, .int v3)]) hC dX6_read_41 rfl (by decide) rfl ?_
  refine zo_iinc hC (x := v3) (fun x_1 => [(3, .int x_1), (2, .int s0), (0, .ref 1), (1, .int v1)]) dX6_read_42 3 rfl (by rfl) (by decide) (fun _ => rfl) (fun x_1 => ?_)
  refine zo_goto (tgt := 13) hC dX6_read_45 (by decide) ?_
  refine zo_sub [2, 3, 1, 0] (lv' := [(0, .ref 1), (1, .int v1), (2, .int s0), (3, .int x_1)]) rfl ?_
  exact hk13 s0 x_1 I

def f_X6_read_40 (v1 : Int32) (k13 : Int32 → Int32 → e_I → Option (Int32 × e_I)) (k48 : e_I → Option (Int32 × e_I)) (v3 : Int32) (I : e_I) : Option (Int32 × e_I) :=
  f_X6_read_41 v1 k13 k48 v3 0 I
set_option maxRecDepth 100000 in
set_option maxHeartbeats 4000000 in
theorem Zf_X6_read_40 {X : e_X} (hC : e_C X cX6_read RX6 4 (some .int) 5 gN) (L : e_L) (v1 : Int32) (k13 : Int32 → Int32 → e_I → Option (Int32 × e_I)) (k48 : e_I → Option (Int32 × e_I)) (hk13 : ∀ (v2 : Int32) (v3 : Int32) (I : e_I), Zo X (ph_iI L) (k13 v2 v3 I) 13 [(0, .ref 1), (1, .int v1), (2, .int v2), (3, .int v3)] [] I L) (hk48 : ∀ (I : e_I), Zo X (ph_iI L) (k48 I) 48 [(0, .ref 1)] [] I L) (v3 : Int32) (I : e_I) : Zo X (ph_iI L) (f_X6_read_40 v1 k13 k48 v3 I) 40 [(0, .ref 1), (1, .int v1), (3, .int v3)] [] I L := by
  unfold f_X6_read_40
  refine zo_iconst (v := 0) hC (by decide) dX6_read_40 ?_
  exact Zf_X6_read_41 hC L v1 k13 k48 hk13 hk48 v3 0 I

def f_X6_read_13 (v1 : Int32) (k48 : e_I → Option (Int32 × e_I)) : Nat → Int32 → Int32 → e_I → Option (Int32 × e_I)
  | 0, _, _, _ => none
  | n + 1, v2, v3, I =>
    if v2 = 0 then (
      k48 I)
    else (
      if v3 > v1 then (
        k48 I)
      else (
        e_b2 (f_X6_readLine I) (fun (r_3 : Int32) (I_4 : e_I) =>
        if r_3 = 0 then (
          f_X6_read_40 v1 (fun v2 v3 I => f_X6_read_13 v1 k48 n v2 v3 I) k48 v3 I_4)
        else (
          e_b2 (f_X6_goesOn I_4) (fun (r_6 : Int32) (I_7 : e_I) =>
          if r_6 = 0 then (
            f_X6_read_40 v1 (fun v2 v3 I => f_X6_read_13 v1 k48 n v2 v3 I) k48 v3 I_7)
          else (
            f_X6_read_41 v1 (fun v2 v3 I => f_X6_read_13 v1 k48 n v2 v3 I) k48 v3 1 I_7))))))
set_option maxRecDepth 100000 in
set_option maxHeartbeats 4000000 in
theorem Zf_X6_read_13 {X : e_X} (hC : e_C X cX6_read RX6 4 (some .int) 5 gN) (L : e_L) (v1 : Int32) (k48 : e_I → Option (Int32 × e_I)) (hk48 : ∀ (I : e_I), Zo X (ph_iI L) (k48 I) 48 [(0, .ref 1)] [] I L) : ∀ (n : Nat) (v2 : Int32) (v3 : Int32) (I : e_I), Zo X (ph_iI L) (f_X6_read_13 v1 k48 n v2 v3 I) 13 [(0, .ref 1), (1, .int v1), (2, .int v2), (3, .int v3)] [] I L := by
  intro n
  induction n with
  | zero => intro v2 v3 I p hp; cases hp
  | succ n ih =>
    intro v2 v3 I
    unfold f_X6_read_13
    refine zo_iload_n hC dX6_read_13 rfl 2 rfl ?_
    refine zo_if_eq (tgt := 48) hC dX6_read_14 (by decide) (fun c_1 => ?_) (fun c_1 => ?_)
    · refine zo_sub [0] (lv' := [(0, .ref 1)]) rfl ?_
      exact hk48 I
    · refine zo_iload_n hC dX6_read_17 rfl 3 rfl ?_
      refine zo_iload_n hC dX6_read_18 rfl 1 rfl ?_
      refine zo_icmp_gt (tgt := 48) hC dX6_read_19 (by decide) (fun c_2 => ?_) (fun c_2 => ?_)
      · refine zo_sub [0] (lv' := [(0, .ref 1)]) rfl ?_
        exact hk48 I
      · refine zo_aload_n hC dX6_read_22 rfl 0 rfl ?_
        refine zo_callV_iI hC (ci := 6) [] [] me_X6_readLine mlX6_59 im_X6_readLine se_X6_readLine rfl (by decide) at_1 (fun p hp => T_X6_readLine I L p hp) (by decide) rfl (Nat.le_of_ble_eq_true rfl) dX6_read_23 rfl (fun r_3 I_4 => ?_)
        refine zo_if_eq (tgt := 40) hC dX6_read_26 (by decide) (fun c_5 => ?_) (fun c_5 => ?_)
        · refine zo_sub [0, 1, 3] (lv' := [(0, .ref 1), (1, .int v1), (3, .int v3)]) rfl ?_
          exact Zf_X6_read_40 hC L v1 (fun v2 v3 I => f_X6_read_13 v1 k48 n v2 v3 I) k48 (fun v2 v3 I => ih v2 v3 I) hk48 v3 I_4
        · refine zo_aload_n hC dX6_read_29 rfl 0 rfl ?_
          refine zo_callV_iI hC (ci := 6) [] [] me_X6_goesOn mlX6_63 im_X6_goesOn se_X6_goesOn rfl (by decide) at_1 (fun p hp => T_X6_goesOn I_4 L p hp) (by decide) rfl (Nat.le_of_ble_eq_true rfl) dX6_read_30 rfl (fun r_6 I_7 => ?_)
          refine zo_if_eq (tgt := 40) hC dX6_read_33 (by decide) (fun c_8 => ?_) (fun c_8 => ?_)
          · refine zo_sub [0, 1, 3] (lv' := [(0, .ref 1), (1, .int v1), (3, .int v3)]) rfl ?_
            exact Zf_X6_read_40 hC L v1 (fun v2 v3 I => f_X6_read_13 v1 k48 n v2 v3 I) k48 (fun v2 v3 I => ih v2 v3 I) hk48 v3 I_7
          · refine zo_iconst (v := 1) hC (by decide) dX6_read_36 ?_
            refine zo_goto (tgt := 41) hC dX6_read_37 (by decide) ?_
            refine zo_sub [0, 1, 3] (lv' := [(0, .ref 1), (1, .int v1), (3, .int v3)]) rfl ?_
            exact Zf_X6_read_41 hC L v1 (fun v2 v3 I => f_X6_read_13 v1 k48 n v2 v3 I) k48 (fun v2 v3 I => ih v2 v3 I) hk48 v3 1 I_7

def f_X6_read_68 (I : e_I) : Option (Int32 × e_I) :=
  some ((I 1 13), I)
set_option maxRecDepth 100000 in
set_option maxHeartbeats 4000000 in
theorem Zf_X6_read_68 {X : e_X} (hC : e_C X cX6_read RX6 4 (some .int) 5 gN) (L : e_L) (I : e_I) : Zo X (ph_iI L) (f_X6_read_68 I) 68 [(0, .ref 1)] [] I L := by
  unfold f_X6_read_68
  refine zo_aload_n hC dX6_read_68 rfl 0 rfl ?_
  refine zo_getI hC fk6_66 at_1 dX6_read_69 ?_
  exact zo_iret hC rfl dX6_read_72

def f_X6_read (v1 : Int32) (I : e_I) : Option (Int32 × e_I) :=
  e_b1 (f_X6_startAt v1 I) (fun (I_1 : e_I) =>
  e_b1 (f_X6_clearSheet I_1) (fun (I_2 : e_I) =>
  f_X6_read_13 v1 (fun (I_3 : e_I) =>
    if (I_3 1 13) ≠ 0 then (
      f_X6_read_68 I_3)
    else (
      if (I_3 1 4) ≠ 0 then (
        f_X6_read_68 I_3)
      else (
        e_b2 (f_X6_blame 5 I_3) (fun (r_6 : Int32) (I_7 : e_I) =>
        f_X6_read_68 I_7)))) e_FU 1 0 I_2))
set_option maxRecDepth 100000 in
set_option maxHeartbeats 4000000 in
theorem Zf_X6_read {X : e_X} (hC : e_C X cX6_read RX6 4 (some .int) 5 gN) (v1 : Int32) (I : e_I) (L : e_L) : Zo X (ph_iI L) (f_X6_read v1 I) 0 [(0, .ref 1), (1, .int v1)] [] I L := by
  unfold f_X6_read
  refine zo_aload_n hC dX6_read_0 rfl 0 rfl ?_
  refine zo_iload_n hC dX6_read_1 rfl 1 rfl ?_
  refine zo_callV_vI hC (ci := 6) [.int v1] [] me_X6_startAt mlX6_52 im_X6_startAt se_X6_startAt rfl (by decide) at_1 (fun p hp => T_X6_startAt v1 I L p hp) (by decide) rfl (Nat.le_of_ble_eq_true rfl) dX6_read_2 rfl (fun I_1 => ?_)
  refine zo_aload_n hC dX6_read_5 rfl 0 rfl ?_
  refine zo_callV_vI hC (ci := 6) [] [] me_X6_clearSheet mlX6_56 im_X6_clearSheet se_X6_clearSheet rfl (by decide) at_1 (fun p hp => T_X6_clearSheet I_1 L p hp) (by decide) rfl (Nat.le_of_ble_eq_true rfl) dX6_read_6 rfl (fun I_2 => ?_)
  refine zo_iconst (v := 1) hC (by decide) dX6_read_9 ?_
  refine zo_istore_n (lv' := [(2, .int 1), (0, .ref 1), (1, .int v1)]) hC dX6_read_10 rfl (by decide) rfl ?_
  refine zo_iconst (v := 0) hC (by decide) dX6_read_11 ?_
  refine zo_istore_n (lv' := [(3, .int 0), (2, .int 1), (0, .ref 1), (1, .int v1)]) hC dX6_read_12 rfl (by decide) rfl ?_
  refine zo_sub [2, 3, 1, 0] (lv' := [(0, .ref 1), (1, .int v1), (2, .int 1), (3, .int 0)]) rfl ?_
  refine Zf_X6_read_13 hC L v1 _ (fun I_3 => ?_) e_FU 1 0 I_2
  · refine zo_aload_n hC dX6_read_48 rfl 0 rfl ?_
    refine zo_getI hC fk6_66 at_1 dX6_read_49 ?_
    refine zo_if_ne (tgt := 68) hC dX6_read_52 (by decide) (fun c_4 => ?_) (fun c_4 => ?_)
    · exact Zf_X6_read_68 hC L I_3
    · refine zo_aload_n hC dX6_read_55 rfl 0 rfl ?_
      refine zo_getI hC fk6_69 at_1 dX6_read_56 ?_
      refine zo_if_ne (tgt := 68) hC dX6_read_59 (by decide) (fun c_5 => ?_) (fun c_5 => ?_)
      · exact Zf_X6_read_68 hC L I_3
      · refine zo_aload_n hC dX6_read_62 rfl 0 rfl ?_
        refine zo_iconst (v := 5) hC (by decide) dX6_read_63 ?_
        refine zo_callV_iI hC (ci := 6) [.int 5] [] me_X6_blame mlX6_72 im_X6_blame se_X6_blame rfl (by decide) at_1 (fun p hp => T_X6_blame 5 I_3 L p hp) (by decide) rfl (Nat.le_of_ble_eq_true rfl) dX6_read_64 rfl (fun r_6 I_7 => ?_)
        refine zo_pop hC rfl dX6_read_67 ?_
        exact Zf_X6_read_68 hC L I_7

theorem T_X6_read (v1 : Int32) (I : e_I) (L : e_L) (p : Int32 × e_I) (hp : f_X6_read v1 I = some p) : Mt yX6_read cX6_read 4 (some .int) 5 gN [.ref 1, .int v1] I L ((ph_iI L) p) := zo_enter hp (by decide) (Nat.le_of_ble_eq_true rfl) (fun X hC => Zf_X6_read hC v1 I L)
def f_X7_text_73 (s0 : Int32) (I : e_I) : Option (Int32 × e_I) :=
  e_b2 (f_X7_refused s0 I) (fun (r_1 : Int32) (I_2 : e_I) =>
  if r_1 = 0 then (
    e_let (e_cpy I_2 2 ((0 : Int32).toNatClampNeg) 8 ((0 : Int32).toNatClampNeg) ((9 : Int32).toNatClampNeg)) (fun (I_4 : e_I) =>
    e_b1 (f_X0_openWith 23 I_4) (fun (I_5 : e_I) =>
    e_b1 (f_X4_forget I_5) (fun (I_6 : e_I) =>
    e_b1 (f_X7_fitMoves I_6) (fun (I_7 : e_I) =>
    some ((I_7 23 0), I_7))))))
  else (
    some ((-1), I_2)))
set_option maxRecDepth 100000 in
set_option maxHeartbeats 4000000 in
theorem Zf_X7_text_73 {X : e_X} (hC : e_C X cX7_text RX7 2 (some .int) 6 gN) (L : e_L) (s0 : Int32) (I : e_I) : Zo X (ph_iI L) (f_X7_text_73 s0 I) 73 [(0, .ref 0)] [.int s0, .ref 0] I L := by
  unfold f_X7_text_73
  refine zo_callV_iI hC (ci := 7) [.int s0] [] me_X7_refused mlX7_70 im_X7_refused se_X7_refused rfl (by decide) at_0 (fun p hp => T_X7_refused s0 I L p hp) (by decide) rfl (Nat.le_of_ble_eq_true rfl) dX7_text_73 rfl (fun r_1 I_2 => ?_)
  refine zo_if_eq (tgt := 81) hC dX7_text_76 (by decide) (fun c_3 => ?_) (fun c_3 => ?_)
  · refine zo_aload_n hC dX7_text_81 rfl 0 rfl ?_
    refine zo_getR hC (r := 1) fk7_12 (by decide) gr_0_0 at_0 dX7_text_82 ?_
    refine zo_getR hC (r := 2) fk7_87 (by decide) gr_1_0 at_1 dX7_text_85 ?_
    refine zo_iconst (v := 0) hC (by decide) dX7_text_88 ?_
    refine zo_aload_n hC dX7_text_89 rfl 0 rfl ?_
    refine zo_getR hC (r := 8) fk7_16 (by decide) gr_0_1 at_0 dX7_text_90 ?_
    refine zo_iconst (v := 0) hC (by decide) dX7_text_93 ?_
    refine zo_bipush (v := 9) hC (by decide) dX7_text_94 ?_
    refine zo_copyi hC mlX7_88 na_copy st_copy in_Sys ar_2 ar_8 (by decide) (by decide) (by decide) (by decide) (by decide) (Nat.le_of_ble_eq_true rfl) dX7_text_96 ?_
    refine zo_topI (fun I_4 => ?_)
    refine zo_aload_n hC dX7_text_99 rfl 0 rfl ?_
    refine zo_getR hC (r := 23) fk7_23 (by decide) gr_0_2 at_0 dX7_text_100 ?_
    refine zo_aload_n hC dX7_text_103 rfl 0 rfl ?_
    refine zo_getR hC (r := 1) fk7_12 (by decide) gr_0_0 at_0 dX7_text_104 ?_
    refine zo_callV_vI hC (ci := 0) [.ref 1] [] me_X0_openWith mlX7_94 im_X0_openWith se_X0_openWith rfl (by decide) at_23 (fun p hp => T_X0_openWith 23 isG_23 I_4 L p hp) (by decide) rfl (Nat.le_of_ble_eq_true rfl) dX7_text_107 rfl (fun I_5 => ?_)
    refine zo_aload_n hC dX7_text_110 rfl 0 rfl ?_
    refine zo_getR hC (r := 9) fk7_33 (by decide) gr_0_4 at_0 dX7_text_111 ?_
    refine zo_callV_vI hC (ci := 4) [] [] me_X4_forget mlX7_98 im_X4_forget se_X4_forget rfl (by decide) at_9 (fun p hp => T_X4_forget I_5 L p hp) (by decide) rfl (Nat.le_of_ble_eq_true rfl) dX7_text_114 rfl (fun I_6 => ?_)
    refine zo_aload_n hC dX7_text_117 rfl 0 rfl ?_
    refine zo_callV_vI hC (ci := 7) [] [] me_X7_fitMoves mlX7_101 im_X7_fitMoves se_X7_fitMoves rfl (by decide) at_0 (fun p hp => T_X7_fitMoves I_6 L p hp) (by decide) rfl (Nat.le_of_ble_eq_true rfl) dX7_text_118 rfl (fun I_7 => ?_)
    refine zo_aload_n hC dX7_text_121 rfl 0 rfl ?_
    refine zo_getR hC (r := 23) fk7_23 (by decide) gr_0_2 at_0 dX7_text_122 ?_
    refine zo_getI hC fk7_104 at_23 dX7_text_125 ?_
    exact zo_iret hC rfl dX7_text_128
  · refine zo_iconst (v := (-1)) hC (by decide) dX7_text_79 ?_
    exact zo_iret hC rfl dX7_text_80

def f_X7_text_21 (v1 : Int32) (s0 : Int32) (I : e_I) : Option (Int32 × e_I) :=
  e_b2 (f_X7_refused s0 I) (fun (r_1 : Int32) (I_2 : e_I) =>
  if r_1 = 0 then (
    e_b2 (f_X6_read v1 I_2) (fun (r_4 : Int32) (I_5 : e_I) =>
    e_let (e_ui I_5 0 9 r_4) (fun (I_6 : e_I) =>
    e_let (e_ui I_6 0 10 (I_6 1 5)) (fun (I_7 : e_I) =>
    e_let (e_ui I_7 1 3 0) (fun (I_8 : e_I) =>
    if (I_8 0 9) ≠ 0 then (
      f_X7_text_73 4 I_8)
    else (
      f_X7_text_73 0 I_8))))))
  else (
    some ((-1), I_2)))
set_option maxRecDepth 100000 in
set_option maxHeartbeats 4000000 in
theorem Zf_X7_text_21 {X : e_X} (hC : e_C X cX7_text RX7 2 (some .int) 6 gN) (L : e_L) (v1 : Int32) (s0 : Int32) (I : e_I) : Zo X (ph_iI L) (f_X7_text_21 v1 s0 I) 21 [(0, .ref 0), (1, .int v1)] [.int s0, .ref 0] I L := by
  unfold f_X7_text_21
  refine zo_callV_iI hC (ci := 7) [.int s0] [] me_X7_refused mlX7_70 im_X7_refused se_X7_refused rfl (by decide) at_0 (fun p hp => T_X7_refused s0 I L p hp) (by decide) rfl (Nat.le_of_ble_eq_true rfl) dX7_text_21 rfl (fun r_1 I_2 => ?_)
  refine zo_if_eq (tgt := 29) hC dX7_text_24 (by decide) (fun c_3 => ?_) (fun c_3 => ?_)
  · refine zo_aload_n hC dX7_text_29 rfl 0 rfl ?_
    refine zo_aload_n hC dX7_text_30 rfl 0 rfl ?_
    refine zo_getR hC (r := 1) fk7_12 (by decide) gr_0_0 at_0 dX7_text_31 ?_
    refine zo_iload_n hC dX7_text_34 rfl 1 rfl ?_
    refine zo_callV_iI hC (ci := 6) [.int v1] [.ref 0] me_X6_read mlX7_74 im_X6_read se_X6_read rfl (by decide) at_1 (fun p hp => T_X6_read v1 I_2 L p hp) (by decide) rfl (Nat.le_of_ble_eq_true rfl) dX7_text_35 rfl (fun r_4 I_5 => ?_)
    refine zo_putI hC fk7_78 ff7_9 at_0 dX7_text_38 ?_
    refine zo_topI (fun I_6 => ?_)
    refine zo_aload_n hC dX7_text_41 rfl 0 rfl ?_
    refine zo_aload_n hC dX7_text_42 rfl 0 rfl ?_
    refine zo_getR hC (r := 1) fk7_12 (by decide) gr_0_0 at_0 dX7_text_43 ?_
    refine zo_getI hC fk7_81 at_1 dX7_text_46 ?_
    refine zo_putI hC fk7_84 ff7_10 at_0 dX7_text_49 ?_
    refine zo_topI (fun I_7 => ?_)
    refine zo_aload_n hC dX7_text_52 rfl 0 rfl ?_
    refine zo_getR hC (r := 1) fk7_12 (by decide) gr_0_0 at_0 dX7_text_53 ?_
    refine zo_iconst (v := 0) hC (by decide) dX7_text_56 ?_
    refine zo_putI hC fk7_58 ff6_3 at_1 dX7_text_57 ?_
    refine zo_topI (fun I_8 => ?_)
    refine zo_aload_n hC dX7_text_60 rfl 0 rfl ?_
    refine zo_aload_n hC dX7_text_61 rfl 0 rfl ?_
    refine zo_getI hC fk7_78 at_0 dX7_text_62 ?_
    refine zo_if_ne (tgt := 72) hC dX7_text_65 (by decide) (fun c_9 => ?_) (fun c_9 => ?_)
    · refine zo_iconst (v := 4) hC (by decide) dX7_text_72 ?_
      refine zo_sub [0] (lv' := [(0, .ref 0)]) rfl ?_
      exact Zf_X7_text_73 hC L 4 I_8
    · refine zo_iconst (v := 0) hC (by decide) dX7_text_68 ?_
      refine zo_goto (tgt := 73) hC dX7_text_69 (by decide) ?_
      refine zo_sub [0] (lv' := [(0, .ref 0)]) rfl ?_
      exact Zf_X7_text_73 hC L 0 I_8
  · refine zo_iconst (v := (-1)) hC (by decide) dX7_text_27 ?_
    exact zo_iret hC rfl dX7_text_28

def f_X7_text (v1 : Int32) (I : e_I) : Option (Int32 × e_I) :=
  e_b1 (f_X7_within v1 0 (I 1 3)) (fun (r_1 : Int32) =>
  if r_1 = 0 then (
    f_X7_text_21 v1 2 I)
  else (
    f_X7_text_21 v1 0 I))
set_option maxRecDepth 100000 in
set_option maxHeartbeats 4000000 in
theorem Zf_X7_text {X : e_X} (hC : e_C X cX7_text RX7 2 (some .int) 6 gN) (v1 : Int32) (I : e_I) (L : e_L) : Zo X (ph_iI L) (f_X7_text v1 I) 0 [(0, .ref 0), (1, .int v1)] [] I L := by
  unfold f_X7_text
  refine zo_aload_n hC dX7_text_0 rfl 0 rfl ?_
  refine zo_iload_n hC dX7_text_1 rfl 1 rfl ?_
  refine zo_iconst (v := 0) hC (by decide) dX7_text_2 ?_
  refine zo_aload_n hC dX7_text_3 rfl 0 rfl ?_
  refine zo_getR hC (r := 1) fk7_12 (by decide) gr_0_0 at_0 dX7_text_4 ?_
  refine zo_getI hC fk7_58 at_1 dX7_text_7 ?_
  refine zo_callS_i hC [.int v1, .int 0, .int (I 1 3)] [.ref 0] me_X7_within mlX7_66 sm_X7_within (fun p hp => T_X7_within v1 0 (I 1 3) I L p hp) (by decide) rfl (Nat.le_of_ble_eq_true rfl) dX7_text_10 rfl (fun r_1 => ?_)
  refine zo_if_eq (tgt := 20) hC dX7_text_13 (by decide) (fun c_2 => ?_) (fun c_2 => ?_)
  · refine zo_iconst (v := 2) hC (by decide) dX7_text_20 ?_
    exact Zf_X7_text_21 hC L v1 2 I
  · refine zo_iconst (v := 0) hC (by decide) dX7_text_16 ?_
    refine zo_goto (tgt := 21) hC dX7_text_17 (by decide) ?_
    exact Zf_X7_text_21 hC L v1 0 I

theorem T_X7_text (v1 : Int32) (I : e_I) (L : e_L) (p : Int32 × e_I) (hp : f_X7_text v1 I = some p) : Mt yX7_text cX7_text 2 (some .int) 6 gN [.ref 0, .int v1] I L ((ph_iI L) p) := zo_enter hp (by decide) (Nat.le_of_ble_eq_true rfl) (fun X hC => Zf_X7_text hC v1 I L)
def f_X7_fault (I : e_I) : Option (Int32) :=
  some (I 0 9)
set_option maxRecDepth 100000 in
set_option maxHeartbeats 4000000 in
theorem Zf_X7_fault {X : e_X} (hC : e_C X cX7_fault RX7 1 (some .int) 0 gN) (I : e_I) (L : e_L) : Zo X (ph_i I L) (f_X7_fault I) 0 [(0, .ref 0)] [] I L := by
  unfold f_X7_fault
  refine zo_aload_n hC dX7_fault_0 rfl 0 rfl ?_
  refine zo_getI hC fk7_78 at_0 dX7_fault_1 ?_
  exact zo_iret hC rfl dX7_fault_4

theorem T_X7_fault (I : e_I) (L : e_L) (p : Int32) (hp : f_X7_fault I = some p) : Mt yX7_fault cX7_fault 1 (some .int) 0 gN [.ref 0] I L ((ph_i I L) p) := zo_enter hp (by decide) (Nat.le_of_ble_eq_true rfl) (fun X hC => Zf_X7_fault hC I L)
def f_X7_where_16 (I : e_I) (s0 : Int32) : Option (Int32) :=
  some s0
set_option maxRecDepth 100000 in
set_option maxHeartbeats 4000000 in
theorem Zf_X7_where_16 {X : e_X} (hC : e_C X cX7_where RX7 1 (some .int) 0 gN) (I : e_I) (L : e_L) (s0 : Int32) : Zo X (ph_i I L) (f_X7_where_16 I s0) 16 [] [.int s0] I L := by
  unfold f_X7_where_16
  exact zo_iret hC rfl dX7_where_16

def f_X7_where (I : e_I) : Option (Int32) :=
  if (I 0 8) ≠ 4 then (
    f_X7_where_16 I (-1))
  else (
    f_X7_where_16 I (I 0 10))
set_option maxRecDepth 100000 in
set_option maxHeartbeats 4000000 in
theorem Zf_X7_where {X : e_X} (hC : e_C X cX7_where RX7 1 (some .int) 0 gN) (I : e_I) (L : e_L) : Zo X (ph_i I L) (f_X7_where I) 0 [(0, .ref 0)] [] I L := by
  unfold f_X7_where
  refine zo_aload_n hC dX7_where_0 rfl 0 rfl ?_
  refine zo_getI hC fk7_107 at_0 dX7_where_1 ?_
  refine zo_iconst (v := 4) hC (by decide) dX7_where_4 ?_
  refine zo_icmp_ne (tgt := 15) hC dX7_where_5 (by decide) (fun c_1 => ?_) (fun c_1 => ?_)
  · refine zo_iconst (v := (-1)) hC (by decide) dX7_where_15 ?_
    refine zo_sub [] (lv' := []) rfl ?_
    exact Zf_X7_where_16 hC I L (-1)
  · refine zo_aload_n hC dX7_where_8 rfl 0 rfl ?_
    refine zo_getI hC fk7_84 at_0 dX7_where_9 ?_
    refine zo_goto (tgt := 16) hC dX7_where_12 (by decide) ?_
    refine zo_sub [] (lv' := []) rfl ?_
    exact Zf_X7_where_16 hC I L (I 0 10)

theorem T_X7_where (I : e_I) (L : e_L) (p : Int32) (hp : f_X7_where I = some p) : Mt yX7_where cX7_where 1 (some .int) 0 gN [.ref 0] I L ((ph_i I L) p) := zo_enter hp (by decide) (Nat.le_of_ble_eq_true rfl) (fun X hC => Zf_X7_where hC I L)
def f_X7_hasText_15 (I : e_I) (s0 : Int32) : Option (Int32) :=
  e_as (s0 = 0 ∨ s0 = 1) (
  some s0)
set_option maxRecDepth 100000 in
set_option maxHeartbeats 4000000 in
theorem Zf_X7_hasText_15 {X : e_X} (hC : e_C X cX7_hasText RX7 1 (some .boolean) 0 gN) (I : e_I) (L : e_L) (s0 : Int32) : Zo X (ph_i I L) (f_X7_hasText_15 I s0) 15 [] [.int s0] I L := by
  unfold f_X7_hasText_15
  refine zo_as (fun h_1 => ?_)
  exact zo_zret hC h_1 rfl dX7_hasText_15

def f_X7_hasText (I : e_I) : Option (Int32) :=
  if (I 23 0) ≤ 0 then (
    f_X7_hasText_15 I 0)
  else (
    f_X7_hasText_15 I 1)
set_option maxRecDepth 100000 in
set_option maxHeartbeats 4000000 in
theorem Zf_X7_hasText {X : e_X} (hC : e_C X cX7_hasText RX7 1 (some .boolean) 0 gN) (I : e_I) (L : e_L) : Zo X (ph_i I L) (f_X7_hasText I) 0 [(0, .ref 0)] [] I L := by
  unfold f_X7_hasText
  refine zo_aload_n hC dX7_hasText_0 rfl 0 rfl ?_
  refine zo_getR hC (r := 23) fk7_23 (by decide) gr_0_2 at_0 dX7_hasText_1 ?_
  refine zo_getI hC fk7_104 at_23 dX7_hasText_4 ?_
  refine zo_if_le (tgt := 14) hC dX7_hasText_7 (by decide) (fun c_1 => ?_) (fun c_1 => ?_)
  · refine zo_iconst (v := 0) hC (by decide) dX7_hasText_14 ?_
    refine zo_sub [] (lv' := []) rfl ?_
    exact Zf_X7_hasText_15 hC I L 0
  · refine zo_iconst (v := 1) hC (by decide) dX7_hasText_10 ?_
    refine zo_goto (tgt := 15) hC dX7_hasText_11 (by decide) ?_
    refine zo_sub [] (lv' := []) rfl ?_
    exact Zf_X7_hasText_15 hC I L 1

theorem T_X7_hasText (I : e_I) (L : e_L) (p : Int32) (hp : f_X7_hasText I = some p) : Mt yX7_hasText cX7_hasText 1 (some .boolean) 0 gN [.ref 0] I L ((ph_i I L) p) := zo_enter hp (by decide) (Nat.le_of_ble_eq_true rfl) (fun X hC => Zf_X7_hasText hC I L)
def f_X7_about_23 (v1 : Int32) (s0 : Int32) (I : e_I) : Option (Int32 × e_I) :=
  e_b2 (f_X7_refused s0 I) (fun (r_1 : Int32) (I_2 : e_I) =>
  if r_1 = 0 then (
    if v1 = 0 then (
      some ((I_2 23 0), I_2))
    else (
    if v1 = 1 then (
      some ((I_2 23 1), I_2))
    else (
    if v1 = 2 then (
      e_b1 (f_X7_basesOf (I_2 23 2)) (fun (r_7 : Int32) =>
      some (r_7, I_2)))
    else (
    if v1 = 3 then (
      e_b1 (f_X7_outsOf (I_2 23 2)) (fun (r_9 : Int32) =>
      some (r_9, I_2)))
    else (
    if v1 = 4 then (
      some ((I_2 23 3), I_2))
    else (
    if v1 = 5 then (
      some ((I_2 23 4), I_2))
    else (
    if v1 = 6 then (
      some ((I_2 23 5), I_2))
    else (
    if v1 = 7 then (
      some ((I_2 23 6), I_2))
    else (
    some ((I_2 9 2), I_2))))))))))
  else (
    some ((-1), I_2)))
set_option maxRecDepth 100000 in
set_option maxHeartbeats 4000000 in
theorem Zf_X7_about_23 {X : e_X} (hC : e_C X cX7_about RX7 2 (some .int) 1 gN) (L : e_L) (v1 : Int32) (s0 : Int32) (I : e_I) : Zo X (ph_iI L) (f_X7_about_23 v1 s0 I) 23 [(0, .ref 0), (1, .int v1)] [.int s0, .ref 0] I L := by
  unfold f_X7_about_23
  refine zo_callV_iI hC (ci := 7) [.int s0] [] me_X7_refused mlX7_70 im_X7_refused se_X7_refused rfl (by decide) at_0 (fun p hp => T_X7_refused s0 I L p hp) (by decide) rfl (Nat.le_of_ble_eq_true rfl) dX7_about_23 rfl (fun r_1 I_2 => ?_)
  refine zo_if_eq (tgt := 31) hC dX7_about_26 (by decide) (fun c_3 => ?_) (fun c_3 => ?_)
  · refine zo_iload_n hC dX7_about_31 rfl 1 rfl ?_
    refine zo_ite (fun c_4 => ?_) (fun c_4 => ?_)
    · refine zo_tsw_in (tgt := 80) hC dX7_about_32 (by rw [c_4]; decide) (by rw [c_4]; decide) (by rw [c_4]; rfl) (by decide) ?_
      refine zo_aload_n hC dX7_about_80 rfl 0 rfl ?_
      refine zo_getR hC (r := 23) fk7_23 (by decide) gr_0_2 at_0 dX7_about_81 ?_
      refine zo_getI hC fk7_104 at_23 dX7_about_84 ?_
      exact zo_iret hC rfl dX7_about_87
    refine zo_ite (fun c_5 => ?_) (fun c_5 => ?_)
    · refine zo_tsw_in (tgt := 88) hC dX7_about_32 (by rw [c_5]; decide) (by rw [c_5]; decide) (by rw [c_5]; rfl) (by decide) ?_
      refine zo_aload_n hC dX7_about_88 rfl 0 rfl ?_
      refine zo_getR hC (r := 23) fk7_23 (by decide) gr_0_2 at_0 dX7_about_89 ?_
      refine zo_getI hC fk7_114 at_23 dX7_about_92 ?_
      exact zo_iret hC rfl dX7_about_95
    refine zo_ite (fun c_6 => ?_) (fun c_6 => ?_)
    · refine zo_tsw_in (tgt := 96) hC dX7_about_32 (by rw [c_6]; decide) (by rw [c_6]; decide) (by rw [c_6]; rfl) (by decide) ?_
      refine zo_aload_n hC dX7_about_96 rfl 0 rfl ?_
      refine zo_getR hC (r := 23) fk7_23 (by decide) gr_0_2 at_0 dX7_about_97 ?_
      refine zo_getI hC fk7_117 at_23 dX7_about_100 ?_
      refine zo_callS_i hC [.int (I_2 23 2)] [] me_X7_basesOf mlX7_120 sm_X7_basesOf (fun p hp => T_X7_basesOf (I_2 23 2) I_2 L p hp) (by decide) rfl (Nat.le_of_ble_eq_true rfl) dX7_about_103 rfl (fun r_7 => ?_)
      exact zo_iret hC rfl dX7_about_106
    refine zo_ite (fun c_8 => ?_) (fun c_8 => ?_)
    · refine zo_tsw_in (tgt := 107) hC dX7_about_32 (by rw [c_8]; decide) (by rw [c_8]; decide) (by rw [c_8]; rfl) (by decide) ?_
      refine zo_aload_n hC dX7_about_107 rfl 0 rfl ?_
      refine zo_getR hC (r := 23) fk7_23 (by decide) gr_0_2 at_0 dX7_about_108 ?_
      refine zo_getI hC fk7_117 at_23 dX7_about_111 ?_
      refine zo_callS_i hC [.int (I_2 23 2)] [] me_X7_outsOf mlX7_123 sm_X7_outsOf (fun p hp => T_X7_outsOf (I_2 23 2) I_2 L p hp) (by decide) rfl (Nat.le_of_ble_eq_true rfl) dX7_about_114 rfl (fun r_9 => ?_)
      exact zo_iret hC rfl dX7_about_117
    refine zo_ite (fun c_10 => ?_) (fun c_10 => ?_)
    · refine zo_tsw_in (tgt := 118) hC dX7_about_32 (by rw [c_10]; decide) (by rw [c_10]; decide) (by rw [c_10]; rfl) (by decide) ?_
      refine zo_aload_n hC dX7_about_118 rfl 0 rfl ?_
      refine zo_getR hC (r := 23) fk7_23 (by decide) gr_0_2 at_0 dX7_about_119 ?_
      refine zo_getI hC fk7_126 at_23 dX7_about_122 ?_
      exact zo_iret hC rfl dX7_about_125
    refine zo_ite (fun c_11 => ?_) (fun c_11 => ?_)
    · refine zo_tsw_in (tgt := 126) hC dX7_about_32 (by rw [c_11]; decide) (by rw [c_11]; decide) (by rw [c_11]; rfl) (by decide) ?_
      refine zo_aload_n hC dX7_about_126 rfl 0 rfl ?_
      refine zo_getR hC (r := 23) fk7_23 (by decide) gr_0_2 at_0 dX7_about_127 ?_
      refine zo_getI hC fk7_129 at_23 dX7_about_130 ?_
      exact zo_iret hC rfl dX7_about_133
    refine zo_ite (fun c_12 => ?_) (fun c_12 => ?_)
    · refine zo_tsw_in (tgt := 134) hC dX7_about_32 (by rw [c_12]; decide) (by rw [c_12]; decide) (by rw [c_12]; rfl) (by decide) ?_
      refine zo_aload_n hC dX7_about_134 rfl 0 rfl ?_
      refine zo_getR hC (r := 23) fk7_23 (by decide) gr_0_2 at_0 dX7_about_135 ?_
      refine zo_getI hC fk7_132 at_23 dX7_about_138 ?_
      exact zo_iret hC rfl dX7_about_141
    refine zo_ite (fun c_13 => ?_) (fun c_13 => ?_)
    · refine zo_tsw_in (tgt := 142) hC dX7_about_32 (by rw [c_13]; decide) (by rw [c_13]; decide) (by rw [c_13]; rfl) (by decide) ?_
      refine zo_aload_n hC dX7_about_142 rfl 0 rfl ?_
      refine zo_getR hC (r := 23) fk7_23 (by decide) gr_0_2 at_0 dX7_about_143 ?_
      refine zo_getI hC fk7_135 at_23 dX7_about_146 ?_
      exact zo_iret hC rfl dX7_about_149
    refine zo_tsw_out (tgt := 150) hC dX7_about_32 (by have q0 := e_sw (n := 0) (by decide) (by decide) c_4; have q1 := e_sw (n := 1) (by decide) (by decide) c_5; have q2 := e_sw (n := 2) (by decide) (by decide) c_6; have q3 := e_sw (n := 3) (by decide) (by decide) c_8; have q4 := e_sw (n := 4) (by decide) (by decide) c_10; have q5 := e_sw (n := 5) (by decide) (by decide) c_11; have q6 := e_sw (n := 6) (by decide) (by decide) c_12; have q7 := e_sw (n := 7) (by decide) (by decide) c_13; omega) (by decide) ?_
    refine zo_aload_n hC dX7_about_150 rfl 0 rfl ?_
    refine zo_getR hC (r := 9) fk7_33 (by decide) gr_0_4 at_0 dX7_about_151 ?_
    refine zo_getI hC fk7_138 at_9 dX7_about_154 ?_
    exact zo_iret hC rfl dX7_about_157
  · refine zo_iconst (v := (-1)) hC (by decide) dX7_about_29 ?_
    exact zo_iret hC rfl dX7_about_30

def f_X7_about_22 (v1 : Int32) (I : e_I) : Option (Int32 × e_I) :=
  f_X7_about_23 v1 1 I
set_option maxRecDepth 100000 in
set_option maxHeartbeats 4000000 in
theorem Zf_X7_about_22 {X : e_X} (hC : e_C X cX7_about RX7 2 (some .int) 1 gN) (L : e_L) (v1 : Int32) (I : e_I) : Zo X (ph_iI L) (f_X7_about_22 v1 I) 22 [(0, .ref 0), (1, .int v1)] [.ref 0] I L := by
  unfold f_X7_about_22
  refine zo_iconst (v := 1) hC (by decide) dX7_about_22 ?_
  exact Zf_X7_about_23 hC L v1 1 I

def f_X7_about (v1 : Int32) (I : e_I) : Option (Int32 × e_I) :=
  e_b1 (f_X7_hasText I) (fun (r_1 : Int32) =>
  if r_1 = 0 then (
    f_X7_about_22 v1 I)
  else (
    e_b1 (f_X7_within v1 0 8) (fun (r_3 : Int32) =>
    if r_3 = 0 then (
      f_X7_about_22 v1 I)
    else (
      f_X7_about_23 v1 0 I))))
set_option maxRecDepth 100000 in
set_option maxHeartbeats 4000000 in
theorem Zf_X7_about {X : e_X} (hC : e_C X cX7_about RX7 2 (some .int) 1 gN) (v1 : Int32) (I : e_I) (L : e_L) : Zo X (ph_iI L) (f_X7_about v1 I) 0 [(0, .ref 0), (1, .int v1)] [] I L := by
  unfold f_X7_about
  refine zo_aload_n hC dX7_about_0 rfl 0 rfl ?_
  refine zo_aload_n hC dX7_about_1 rfl 0 rfl ?_
  refine zo_callV_i hC (ci := 7) [] [.ref 0] me_X7_hasText mlX7_110 im_X7_hasText se_X7_hasText rfl (by decide) at_0 (fun p hp => T_X7_hasText I L p hp) (by decide) rfl (Nat.le_of_ble_eq_true rfl) dX7_about_2 rfl (fun r_1 => ?_)
  refine zo_if_eq (tgt := 22) hC dX7_about_5 (by decide) (fun c_2 => ?_) (fun c_2 => ?_)
  · exact Zf_X7_about_22 hC L v1 I
  · refine zo_iload_n hC dX7_about_8 rfl 1 rfl ?_
    refine zo_iconst (v := 0) hC (by decide) dX7_about_9 ?_
    refine zo_bipush (v := 8) hC (by decide) dX7_about_10 ?_
    refine zo_callS_i hC [.int v1, .int 0, .int 8] [.ref 0] me_X7_within mlX7_66 sm_X7_within (fun p hp => T_X7_within v1 0 8 I L p hp) (by decide) rfl (Nat.le_of_ble_eq_true rfl) dX7_about_12 rfl (fun r_3 => ?_)
    refine zo_if_eq (tgt := 22) hC dX7_about_15 (by decide) (fun c_4 => ?_) (fun c_4 => ?_)
    · exact Zf_X7_about_22 hC L v1 I
    · refine zo_iconst (v := 0) hC (by decide) dX7_about_18 ?_
      refine zo_goto (tgt := 23) hC dX7_about_19 (by decide) ?_
      exact Zf_X7_about_23 hC L v1 0 I

theorem T_X7_about (v1 : Int32) (I : e_I) (L : e_L) (p : Int32 × e_I) (hp : f_X7_about v1 I = some p) : Mt yX7_about cX7_about 2 (some .int) 1 gN [.ref 0, .int v1] I L ((ph_iI L) p) := zo_enter hp (by decide) (Nat.le_of_ble_eq_true rfl) (fun X hC => Zf_X7_about hC v1 I L)
def f_X7_rule_22 (v1 : Int32) (s0 : Int32) (I : e_I) : Option (Int32 × e_I) :=
  e_b2 (f_X7_refused s0 I) (fun (r_1 : Int32) (I_2 : e_I) =>
  if r_1 = 0 then (
    e_b1 (f_X0_ruled 23 v1 I_2) (fun (r_4 : Int32) =>
    some (r_4, I_2)))
  else (
    some ((-1), I_2)))
set_option maxRecDepth 100000 in
set_option maxHeartbeats 4000000 in
theorem Zf_X7_rule_22 {X : e_X} (hC : e_C X cX7_rule RX7 2 (some .int) 2 gN) (L : e_L) (v1 : Int32) (s0 : Int32) (I : e_I) : Zo X (ph_iI L) (f_X7_rule_22 v1 s0 I) 22 [(0, .ref 0), (1, .int v1)] [.int s0, .ref 0] I L := by
  unfold f_X7_rule_22
  refine zo_callV_iI hC (ci := 7) [.int s0] [] me_X7_refused mlX7_70 im_X7_refused se_X7_refused rfl (by decide) at_0 (fun p hp => T_X7_refused s0 I L p hp) (by decide) rfl (Nat.le_of_ble_eq_true rfl) dX7_rule_22 rfl (fun r_1 I_2 => ?_)
  refine zo_if_eq (tgt := 30) hC dX7_rule_25 (by decide) (fun c_3 => ?_) (fun c_3 => ?_)
  · refine zo_aload_n hC dX7_rule_30 rfl 0 rfl ?_
    refine zo_getR hC (r := 23) fk7_23 (by decide) gr_0_2 at_0 dX7_rule_31 ?_
    refine zo_iload_n hC dX7_rule_34 rfl 1 rfl ?_
    refine zo_callV_i hC (ci := 0) [.int v1] [] me_X0_ruled mlX7_139 im_X0_ruled se_X0_ruled rfl (by decide) at_23 (fun p hp => T_X0_ruled 23 isG_23 v1 I_2 L p hp) (by decide) rfl (Nat.le_of_ble_eq_true rfl) dX7_rule_35 rfl (fun r_4 => ?_)
    exact zo_iret hC rfl dX7_rule_38
  · refine zo_iconst (v := (-1)) hC (by decide) dX7_rule_28 ?_
    exact zo_iret hC rfl dX7_rule_29

def f_X7_rule_21 (v1 : Int32) (I : e_I) : Option (Int32 × e_I) :=
  f_X7_rule_22 v1 1 I
set_option maxRecDepth 100000 in
set_option maxHeartbeats 4000000 in
theorem Zf_X7_rule_21 {X : e_X} (hC : e_C X cX7_rule RX7 2 (some .int) 2 gN) (L : e_L) (v1 : Int32) (I : e_I) : Zo X (ph_iI L) (f_X7_rule_21 v1 I) 21 [(0, .ref 0), (1, .int v1)] [.ref 0] I L := by
  unfold f_X7_rule_21
  refine zo_iconst (v := 1) hC (by decide) dX7_rule_21 ?_
  exact Zf_X7_rule_22 hC L v1 1 I

def f_X7_rule (v1 : Int32) (I : e_I) : Option (Int32 × e_I) :=
  e_b1 (f_X7_hasText I) (fun (r_1 : Int32) =>
  if r_1 = 0 then (
    f_X7_rule_21 v1 I)
  else (
    e_b1 (f_X7_within v1 0 4) (fun (r_3 : Int32) =>
    if r_3 = 0 then (
      f_X7_rule_21 v1 I)
    else (
      f_X7_rule_22 v1 0 I))))
set_option maxRecDepth 100000 in
set_option maxHeartbeats 4000000 in
theorem Zf_X7_rule {X : e_X} (hC : e_C X cX7_rule RX7 2 (some .int) 2 gN) (v1 : Int32) (I : e_I) (L : e_L) : Zo X (ph_iI L) (f_X7_rule v1 I) 0 [(0, .ref 0), (1, .int v1)] [] I L := by
  unfold f_X7_rule
  refine zo_aload_n hC dX7_rule_0 rfl 0 rfl ?_
  refine zo_aload_n hC dX7_rule_1 rfl 0 rfl ?_
  refine zo_callV_i hC (ci := 7) [] [.ref 0] me_X7_hasText mlX7_110 im_X7_hasText se_X7_hasText rfl (by decide) at_0 (fun p hp => T_X7_hasText I L p hp) (by decide) rfl (Nat.le_of_ble_eq_true rfl) dX7_rule_2 rfl (fun r_1 => ?_)
  refine zo_if_eq (tgt := 21) hC dX7_rule_5 (by decide) (fun c_2 => ?_) (fun c_2 => ?_)
  · exact Zf_X7_rule_21 hC L v1 I
  · refine zo_iload_n hC dX7_rule_8 rfl 1 rfl ?_
    refine zo_iconst (v := 0) hC (by decide) dX7_rule_9 ?_
    refine zo_iconst (v := 4) hC (by decide) dX7_rule_10 ?_
    refine zo_callS_i hC [.int v1, .int 0, .int 4] [.ref 0] me_X7_within mlX7_66 sm_X7_within (fun p hp => T_X7_within v1 0 4 I L p hp) (by decide) rfl (Nat.le_of_ble_eq_true rfl) dX7_rule_11 rfl (fun r_3 => ?_)
    refine zo_if_eq (tgt := 21) hC dX7_rule_14 (by decide) (fun c_4 => ?_) (fun c_4 => ?_)
    · exact Zf_X7_rule_21 hC L v1 I
    · refine zo_iconst (v := 0) hC (by decide) dX7_rule_17 ?_
      refine zo_goto (tgt := 22) hC dX7_rule_18 (by decide) ?_
      exact Zf_X7_rule_22 hC L v1 0 I

theorem T_X7_rule (v1 : Int32) (I : e_I) (L : e_L) (p : Int32 × e_I) (hp : f_X7_rule v1 I = some p) : Mt yX7_rule cX7_rule 2 (some .int) 2 gN [.ref 0, .int v1] I L ((ph_iI L) p) := zo_enter hp (by decide) (Nat.le_of_ble_eq_true rfl) (fun X hC => Zf_X7_rule hC v1 I L)
def f_X0_chanceOf_35 (g : Nat) (I : e_I) (s0 : Int32) : Option (Int32) :=
  some s0
set_option maxRecDepth 100000 in
set_option maxHeartbeats 4000000 in
theorem Zf_X0_chanceOf_35 {X : e_X} (hC : e_C X cX0_chanceOf RX0 3 (some .int) 0 gN) (g : Nat) (hg : e_isG g) (I : e_I) (L : e_L) (s0 : Int32) : Zo X (ph_i I L) (f_X0_chanceOf_35 g I s0) 35 [] [.int s0] I L := by
  unfold f_X0_chanceOf_35
  exact zo_iret hC rfl dX0_chanceOf_35

def f_X0_chanceOf_34 (g : Nat) (I : e_I) : Option (Int32) :=
  f_X0_chanceOf_35 g I 0
set_option maxRecDepth 100000 in
set_option maxHeartbeats 4000000 in
theorem Zf_X0_chanceOf_34 {X : e_X} (hC : e_C X cX0_chanceOf RX0 3 (some .int) 0 gN) (g : Nat) (hg : e_isG g) (I : e_I) (L : e_L) : Zo X (ph_i I L) (f_X0_chanceOf_34 g I) 34 [] [] I L := by
  unfold f_X0_chanceOf_34
  refine zo_iconst (v := 0) hC (by decide) dX0_chanceOf_34 ?_
  exact Zf_X0_chanceOf_35 hC g hg I L 0

def f_X0_chanceOf (g : Nat) (v1 : Int32) (v2 : Int32) (I : e_I) : Option (Int32) :=
  if v1 < 0 then (
    f_X0_chanceOf_34 g I )
  else (
    if v1 ≥ 9 then (
      f_X0_chanceOf_34 g I )
    else (
      if v2 < 0 then (
        f_X0_chanceOf_34 g I )
      else (
        if v2 ≥ 6 then (
          f_X0_chanceOf_34 g I )
        else (
          e_as (e_ix ((v1 * 6) + v2) 54 = true) (
          f_X0_chanceOf_35 g I (I (g + 1) ((v1 * 6) + v2).toNatClampNeg))))))
set_option maxRecDepth 100000 in
set_option maxHeartbeats 4000000 in
theorem Zf_X0_chanceOf {X : e_X} (hC : e_C X cX0_chanceOf RX0 3 (some .int) 0 gN) (g : Nat) (hg : e_isG g) (v1 : Int32) (v2 : Int32) (I : e_I) (L : e_L) : Zo X (ph_i I L) (f_X0_chanceOf g v1 v2 I) 0 [(0, .ref g), (1, .int v1), (2, .int v2)] [] I L := by
  unfold f_X0_chanceOf
  refine zo_iload_n hC dX0_chanceOf_0 rfl 1 rfl ?_
  refine zo_if_lt (tgt := 34) hC dX0_chanceOf_1 (by decide) (fun c_1 => ?_) (fun c_1 => ?_)
  · refine zo_sub [] (lv' := []) rfl ?_
    exact Zf_X0_chanceOf_34 hC g hg I L 
  · refine zo_iload_n hC dX0_chanceOf_4 rfl 1 rfl ?_
    refine zo_bipush (v := 9) hC (by decide) dX0_chanceOf_5 ?_
    refine zo_icmp_ge (tgt := 34) hC dX0_chanceOf_7 (by decide) (fun c_2 => ?_) (fun c_2 => ?_)
    · refine zo_sub [] (lv' := []) rfl ?_
      exact Zf_X0_chanceOf_34 hC g hg I L 
    · refine zo_iload_n hC dX0_chanceOf_10 rfl 2 rfl ?_
      refine zo_if_lt (tgt := 34) hC dX0_chanceOf_11 (by decide) (fun c_3 => ?_) (fun c_3 => ?_)
      · refine zo_sub [] (lv' := []) rfl ?_
        exact Zf_X0_chanceOf_34 hC g hg I L 
      · refine zo_iload_n hC dX0_chanceOf_14 rfl 2 rfl ?_
        refine zo_bipush (v := 6) hC (by decide) dX0_chanceOf_15 ?_
        refine zo_icmp_ge (tgt := 34) hC dX0_chanceOf_17 (by decide) (fun c_4 => ?_) (fun c_4 => ?_)
        · refine zo_sub [] (lv' := []) rfl ?_
          exact Zf_X0_chanceOf_34 hC g hg I L 
        · refine zo_aload_n hC dX0_chanceOf_20 rfl 0 rfl ?_
          refine zo_getR hC (r := (g + 1)) fk0_9 (by decide) (grG8 hg) (atG hg) dX0_chanceOf_21 ?_
          refine zo_iload_n hC dX0_chanceOf_24 rfl 1 rfl ?_
          refine zo_bipush (v := 6) hC (by decide) dX0_chanceOf_25 ?_
          refine zo_imul hC dX0_chanceOf_27 ?_
          refine zo_iload_n hC dX0_chanceOf_28 rfl 2 rfl ?_
          refine zo_iadd hC dX0_chanceOf_29 ?_
          refine zo_as (fun h_5 => ?_)
          refine zo_iald hC (arG1 hg) (e_ix_vp h_5) dX0_chanceOf_30 ?_
          refine zo_goto (tgt := 35) hC dX0_chanceOf_31 (by decide) ?_
          refine zo_sub [] (lv' := []) rfl ?_
          exact Zf_X0_chanceOf_35 hC g hg I L (I (g + 1) ((v1 * 6) + v2).toNatClampNeg)

theorem T_X0_chanceOf (g : Nat) (hg : e_isG g) (v1 : Int32) (v2 : Int32) (I : e_I) (L : e_L) (p : Int32) (hp : f_X0_chanceOf g v1 v2 I = some p) : Mt yX0_chanceOf cX0_chanceOf 3 (some .int) 0 gN [.ref g, .int v1, .int v2] I L ((ph_i I L) p) := zo_enter hp (by decide) (Nat.le_of_ble_eq_true rfl) (fun X hC => Zf_X0_chanceOf hC g hg v1 v2 I L)
def f_X0_hasBatter_17 (g : Nat) (I : e_I) (s0 : Int32) : Option (Int32) :=
  e_as (s0 = 0 ∨ s0 = 1) (
  some s0)
set_option maxRecDepth 100000 in
set_option maxHeartbeats 4000000 in
theorem Zf_X0_hasBatter_17 {X : e_X} (hC : e_C X cX0_hasBatter RX0 2 (some .boolean) 0 gN) (g : Nat) (hg : e_isG g) (I : e_I) (L : e_L) (s0 : Int32) : Zo X (ph_i I L) (f_X0_hasBatter_17 g I s0) 17 [] [.int s0] I L := by
  unfold f_X0_hasBatter_17
  refine zo_as (fun h_1 => ?_)
  exact zo_zret hC h_1 rfl dX0_hasBatter_17

def f_X0_hasBatter_16 (g : Nat) (I : e_I) : Option (Int32) :=
  f_X0_hasBatter_17 g I 0
set_option maxRecDepth 100000 in
set_option maxHeartbeats 4000000 in
theorem Zf_X0_hasBatter_16 {X : e_X} (hC : e_C X cX0_hasBatter RX0 2 (some .boolean) 0 gN) (g : Nat) (hg : e_isG g) (I : e_I) (L : e_L) : Zo X (ph_i I L) (f_X0_hasBatter_16 g I) 16 [] [] I L := by
  unfold f_X0_hasBatter_16
  refine zo_iconst (v := 0) hC (by decide) dX0_hasBatter_16 ?_
  exact Zf_X0_hasBatter_17 hC g hg I L 0

def f_X0_hasBatter (g : Nat) (v1 : Int32) (I : e_I) : Option (Int32) :=
  if v1 < 0 then (
    f_X0_hasBatter_16 g I )
  else (
    if v1 ≥ (I g 0) then (
      f_X0_hasBatter_16 g I )
    else (
      f_X0_hasBatter_17 g I 1))
set_option maxRecDepth 100000 in
set_option maxHeartbeats 4000000 in
theorem Zf_X0_hasBatter {X : e_X} (hC : e_C X cX0_hasBatter RX0 2 (some .boolean) 0 gN) (g : Nat) (hg : e_isG g) (v1 : Int32) (I : e_I) (L : e_L) : Zo X (ph_i I L) (f_X0_hasBatter g v1 I) 0 [(0, .ref g), (1, .int v1)] [] I L := by
  unfold f_X0_hasBatter
  refine zo_iload_n hC dX0_hasBatter_0 rfl 1 rfl ?_
  refine zo_if_lt (tgt := 16) hC dX0_hasBatter_1 (by decide) (fun c_1 => ?_) (fun c_1 => ?_)
  · refine zo_sub [] (lv' := []) rfl ?_
    exact Zf_X0_hasBatter_16 hC g hg I L 
  · refine zo_iload_n hC dX0_hasBatter_4 rfl 1 rfl ?_
    refine zo_aload_n hC dX0_hasBatter_5 rfl 0 rfl ?_
    refine zo_getI hC fk0_30 (atG hg) dX0_hasBatter_6 ?_
    refine zo_icmp_ge (tgt := 16) hC dX0_hasBatter_9 (by decide) (fun c_2 => ?_) (fun c_2 => ?_)
    · refine zo_sub [] (lv' := []) rfl ?_
      exact Zf_X0_hasBatter_16 hC g hg I L 
    · refine zo_iconst (v := 1) hC (by decide) dX0_hasBatter_12 ?_
      refine zo_goto (tgt := 17) hC dX0_hasBatter_13 (by decide) ?_
      refine zo_sub [] (lv' := []) rfl ?_
      exact Zf_X0_hasBatter_17 hC g hg I L 1

theorem T_X0_hasBatter (g : Nat) (hg : e_isG g) (v1 : Int32) (I : e_I) (L : e_L) (p : Int32) (hp : f_X0_hasBatter g v1 I = some p) : Mt yX0_hasBatter cX0_hasBatter 2 (some .boolean) 0 gN [.ref g, .int v1] I L ((ph_i I L) p) := zo_enter hp (by decide) (Nat.le_of_ble_eq_true rfl) (fun X hC => Zf_X0_hasBatter hC g hg v1 I L)
def f_X0_placeOf_2 (g : Nat) (I : e_I) (v1 : Int32) (k34 : Unit → Option (Int32)) (k26 : Int32 → Option (Int32)) : Nat → Int32 → Option (Int32)
  | 0, _ => none
  | n + 1, v2 =>
    if v2 ≥ (I g 0) then (
      k34 ())
    else (
      if v2 ≥ 9 then (
        k34 ())
      else (
        e_as (e_ix v2 9 = true) (
        if (I (g + 3) v2.toNatClampNeg) ≠ v1 then (
          e_let (v2 + 1) (fun (x_5 : Int32) =>
          f_X0_placeOf_2 g I v1 k34 k26 n x_5))
        else (
          k26 v2))))
set_option maxRecDepth 100000 in
set_option maxHeartbeats 4000000 in
theorem Zf_X0_placeOf_2 {X : e_X} (hC : e_C X cX0_placeOf RX0 3 (some .int) 0 gN) (g : Nat) (hg : e_isG g) (I : e_I) (L : e_L) (v1 : Int32) (k34 : Unit → Option (Int32)) (k26 : Int32 → Option (Int32)) (hk34 : Zo X (ph_i I L) (k34 ()) 34 [] [] I L) (hk26 : ∀ (v2 : Int32), Zo X (ph_i I L) (k26 v2) 26 [(2, .int v2)] [] I L) : ∀ (n : Nat) (v2 : Int32), Zo X (ph_i I L) (f_X0_placeOf_2 g I v1 k34 k26 n v2) 2 [(0, .ref g), (1, .int v1), (2, .int v2)] [] I L := by
  intro n
  induction n with
  | zero => intro v2 p hp; cases hp
  | succ n ih =>
    intro v2
    unfold f_X0_placeOf_2
    refine zo_iload_n hC dX0_placeOf_2 rfl 2 rfl ?_
    refine zo_aload_n hC dX0_placeOf_3 rfl 0 rfl ?_
    refine zo_getI hC fk0_30 (atG hg) dX0_placeOf_4 ?_
    refine zo_icmp_ge (tgt := 34) hC dX0_placeOf_7 (by decide) (fun c_1 => ?_) (fun c_1 => ?_)
    · refine zo_sub [] (lv' := []) rfl ?_
      exact hk34
    · refine zo_iload_n hC dX0_placeOf_10 rfl 2 rfl ?_
      refine zo_bipush (v := 9) hC (by decide) dX0_placeOf_11 ?_
      refine zo_icmp_ge (tgt := 34) hC dX0_placeOf_13 (by decide) (fun c_2 => ?_) (fun c_2 => ?_)
      · refine zo_sub [] (lv' := []) rfl ?_
        exact hk34
      · refine zo_aload_n hC dX0_placeOf_16 rfl 0 rfl ?_
        refine zo_getR hC (r := (g + 3)) fk0_18 (by decide) (grG10 hg) (atG hg) dX0_placeOf_17 ?_
        refine zo_iload_n hC dX0_placeOf_20 rfl 2 rfl ?_
        refine zo_as (fun h_3 => ?_)
        refine zo_iald hC (arG3 hg) (e_ix_vp h_3) dX0_placeOf_21 ?_
        refine zo_iload_n hC dX0_placeOf_22 rfl 1 rfl ?_
        refine zo_icmp_ne (tgt := 28) hC dX0_placeOf_23 (by decide) (fun c_4 => ?_) (fun c_4 => ?_)
        · refine zo_iinc hC (x := v2) (fun x_5 => [(2, .int x_5), (0, .ref g), (1, .int v1)]) dX0_placeOf_28 2 rfl (by rfl) (by decide) (fun _ => rfl) (fun x_5 => ?_)
          refine zo_goto (tgt := 2) hC dX0_placeOf_31 (by decide) ?_
          refine zo_sub [1, 2, 0] (lv' := [(0, .ref g), (1, .int v1), (2, .int x_5)]) rfl ?_
          exact ih x_5
        · refine zo_sub [2] (lv' := [(2, .int v2)]) rfl ?_
          exact hk26 v2

def f_X0_placeOf (g : Nat) (v1 : Int32) (I : e_I) : Option (Int32) :=
  f_X0_placeOf_2 g I v1 (fun (_ : Unit) =>
    some 0) (fun (v2_1 : Int32) =>
    some v2_1) e_FU 0
set_option maxRecDepth 100000 in
set_option maxHeartbeats 4000000 in
theorem Zf_X0_placeOf {X : e_X} (hC : e_C X cX0_placeOf RX0 3 (some .int) 0 gN) (g : Nat) (hg : e_isG g) (v1 : Int32) (I : e_I) (L : e_L) : Zo X (ph_i I L) (f_X0_placeOf g v1 I) 0 [(0, .ref g), (1, .int v1)] [] I L := by
  unfold f_X0_placeOf
  refine zo_iconst (v := 0) hC (by decide) dX0_placeOf_0 ?_
  refine zo_istore_n (lv' := [(2, .int 0), (0, .ref g), (1, .int v1)]) hC dX0_placeOf_1 rfl (by decide) rfl ?_
  refine zo_sub [1, 2, 0] (lv' := [(0, .ref g), (1, .int v1), (2, .int 0)]) rfl ?_
  refine Zf_X0_placeOf_2 hC g hg I L v1 _ _ ?_ (fun v2_1 => ?_) e_FU 0
  · refine zo_iconst (v := 0) hC (by decide) dX0_placeOf_34 ?_
    exact zo_iret hC rfl dX0_placeOf_35
  · refine zo_iload_n hC dX0_placeOf_26 rfl 0 rfl ?_
    exact zo_iret hC rfl dX0_placeOf_27

theorem T_X0_placeOf (g : Nat) (hg : e_isG g) (v1 : Int32) (I : e_I) (L : e_L) (p : Int32) (hp : f_X0_placeOf g v1 I = some p) : Mt yX0_placeOf cX0_placeOf 3 (some .int) 0 gN [.ref g, .int v1] I L ((ph_i I L) p) := zo_enter hp (by decide) (Nat.le_of_ble_eq_true rfl) (fun X hC => Zf_X0_placeOf hC g hg v1 I L)
