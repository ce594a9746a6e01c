def f_X8_become_22 (v1 : Int32) (v2 : Int32) (s0 : Int32) (I : e_I) : Option (Int32 × e_I) :=
  e_b1 (f_X8_lowOf v1) (fun (r_1 : Int32) =>
  e_b1 (f_X8_highOf v1) (fun (r_2 : Int32) =>
  e_b1 (f_X8_in v2 r_1 r_2) (fun (r_3 : Int32) =>
  e_b1 (f_X8_unless_ s0 r_3) (fun (r_4 : Int32) =>
  e_b2 (f_X8_isRefused r_4 I) (fun (r_5 : Int32) (I_6 : e_I) =>
  if r_5 = 0 then (
    e_b1 (f_X8_remembers I_6) (fun (I_8 : e_I) =>
    e_as (e_ix ((1 : Int32) + v1) 396 = true) (
    e_let (I_8 85 ((1 : Int32) + v1).toNatClampNeg) (fun (x_10 : Int32) =>
    e_as (e_ix ((1 : Int32) + v1) 396 = true) (
    e_let (e_ui I_8 85 ((1 : Int32) + v1).toNatClampNeg v2) (fun (I_12 : e_I) =>
    some (x_10, I_12)))))))
  else (
    some ((-1), I_6)))))))
set_option maxRecDepth 100000 in
set_option maxHeartbeats 4000000 in
theorem Zf_X8_become_22 {X : e_X} (hC : e_C X cX8_become RX8 4 (some .int) 2 gN) (L : e_L) (v1 : Int32) (v2 : Int32) (s0 : Int32) (I : e_I) : Zo X (ph_iI L) (f_X8_become_22 v1 v2 s0 I) 22 [(0, .ref 83), (1, .int v1), (2, .int v2)] [.int s0, .ref 83] I L := by
  unfold f_X8_become_22
  refine zo_iload_n hC dX8_become_22 rfl 2 rfl ?_
  refine zo_iload_n hC dX8_become_23 rfl 1 rfl ?_
  refine zo_callS_i hC [.int v1] [.int v2, .int s0, .ref 83] me_X8_lowOf mlX8_143 sm_X8_lowOf (fun p hp => T_X8_lowOf v1 I L p hp) (by decide) rfl (Nat.le_of_ble_eq_true rfl) dX8_become_24 rfl (fun r_1 => ?_)
  refine zo_iload_n hC dX8_become_27 rfl 1 rfl ?_
  refine zo_callS_i hC [.int v1] [.int r_1, .int v2, .int s0, .ref 83] me_X8_highOf mlX8_146 sm_X8_highOf (fun p hp => T_X8_highOf v1 I L p hp) (by decide) rfl (Nat.le_of_ble_eq_true rfl) dX8_become_28 rfl (fun r_2 => ?_)
  refine zo_callS_i hC [.int v2, .int r_1, .int r_2] [.int s0, .ref 83] me_X8_in mlX8_83 sm_X8_in (fun p hp => T_X8_in v2 r_1 r_2 I L p hp) (by decide) rfl (Nat.le_of_ble_eq_true rfl) dX8_become_31 rfl (fun r_3 => ?_)
  refine zo_callS_i hC [.int s0, .int r_3] [.ref 83] me_X8_unless_ mlX8_158 sm_X8_unless_ (fun p hp => T_X8_unless_ s0 r_3 I L p hp) (by decide) rfl (Nat.le_of_ble_eq_true rfl) dX8_become_34 rfl (fun r_4 => ?_)
  refine zo_callV_iI hC (ci := 8) [.int r_4] [] me_X8_isRefused mlX8_162 im_X8_isRefused se_X8_isRefused rfl (by decide) at_83 (fun p hp => T_X8_isRefused r_4 I L p hp) (by decide) rfl (Nat.le_of_ble_eq_true rfl) dX8_become_37 rfl (fun r_5 I_6 => ?_)
  refine zo_if_eq (tgt := 45) hC dX8_become_40 (by decide) (fun c_7 => ?_) (fun c_7 => ?_)
  · refine zo_aload_n hC dX8_become_45 rfl 0 rfl ?_
    refine zo_callV_vI hC (ci := 8) [] [] me_X8_remembers mlX8_349 im_X8_remembers se_X8_remembers rfl (by decide) at_83 (fun p hp => T_X8_remembers I_6 L p hp) (by decide) rfl (Nat.le_of_ble_eq_true rfl) dX8_become_46 rfl (fun I_8 => ?_)
    refine zo_aload_n hC dX8_become_49 rfl 0 rfl ?_
    refine zo_getR hC (r := 85) fk8_17 (by decide) gr_83_7 at_83 dX8_become_50 ?_
    refine zo_iconst (v := 1) hC (by decide) dX8_become_53 ?_
    refine zo_iload_n hC dX8_become_54 rfl 1 rfl ?_
    refine zo_iadd hC dX8_become_55 ?_
    refine zo_as (fun h_9 => ?_)
    refine zo_iald hC ar_85 (e_ix_vp h_9) dX8_become_56 ?_
    refine zo_topi (fun x_10 => ?_)
    refine zo_istore_n (lv' := [(3, .int x_10), (0, .ref 83), (1, .int v1), (2, .int v2)]) hC dX8_become_57 rfl (by decide) rfl ?_
    refine zo_aload_n hC dX8_become_58 rfl 1 rfl ?_
    refine zo_getR hC (r := 85) fk8_17 (by decide) gr_83_7 at_83 dX8_become_59 ?_
    refine zo_iconst (v := 1) hC (by decide) dX8_become_62 ?_
    refine zo_iload_n hC dX8_become_63 rfl 2 rfl ?_
    refine zo_iadd hC dX8_become_64 ?_
    refine zo_iload_n hC dX8_become_65 rfl 3 rfl ?_
    refine zo_as (fun h_11 => ?_)
    refine zo_iast hC ar_85 (e_ix_vp h_11) dX8_become_66 ?_
    refine zo_topI (fun I_12 => ?_)
    refine zo_iload_n hC dX8_become_67 rfl 0 rfl ?_
    exact zo_iret hC rfl dX8_become_68
  · refine zo_iconst (v := (-1)) hC (by decide) dX8_become_43 ?_
    exact zo_iret hC rfl dX8_become_44

def f_X8_become_21 (v1 : Int32) (v2 : Int32) (I : e_I) : Option (Int32 × e_I) :=
  f_X8_become_22 v1 v2 0 I
set_option maxRecDepth 100000 in
set_option maxHeartbeats 4000000 in
theorem Zf_X8_become_21 {X : e_X} (hC : e_C X cX8_become RX8 4 (some .int) 2 gN) (L : e_L) (v1 : Int32) (v2 : Int32) (I : e_I) : Zo X (ph_iI L) (f_X8_become_21 v1 v2 I) 21 [(0, .ref 83), (1, .int v1), (2, .int v2)] [.ref 83] I L := by
  unfold f_X8_become_21
  refine zo_iconst (v := 0) hC (by decide) dX8_become_21 ?_
  exact Zf_X8_become_22 hC L v1 v2 0 I

def f_X8_become (v1 : Int32) (v2 : Int32) (I : e_I) : Option (Int32 × e_I) :=
  if (I 83 6) = 0 then (
    f_X8_become_21 v1 v2 I)
  else (
    e_b1 (f_X8_in v1 0 4) (fun (r_2 : Int32) =>
    if r_2 = 0 then (
      f_X8_become_21 v1 v2 I)
    else (
      f_X8_become_22 v1 v2 1 I)))
set_option maxRecDepth 100000 in
set_option maxHeartbeats 4000000 in
theorem Zf_X8_become {X : e_X} (hC : e_C X cX8_become RX8 4 (some .int) 2 gN) (v1 : Int32) (v2 : Int32) (I : e_I) (L : e_L) : Zo X (ph_iI L) (f_X8_become v1 v2 I) 0 [(0, .ref 83), (1, .int v1), (2, .int v2)] [] I L := by
  unfold f_X8_become
  refine zo_aload_n hC dX8_become_0 rfl 0 rfl ?_
  refine zo_aload_n hC dX8_become_1 rfl 0 rfl ?_
  refine zo_getZ hC fk8_174 at_83 dX8_become_2 ?_
  refine zo_if_eq (tgt := 21) hC dX8_become_5 (by decide) (fun c_1 => ?_) (fun c_1 => ?_)
  · exact Zf_X8_become_21 hC L v1 v2 I
  · refine zo_iload_n hC dX8_become_8 rfl 1 rfl ?_
    refine zo_iconst (v := 0) hC (by decide) dX8_become_9 ?_
    refine zo_iconst (v := 4) hC (by decide) dX8_become_10 ?_
    refine zo_callS_i hC [.int v1, .int 0, .int 4] [.ref 83] me_X8_in mlX8_83 sm_X8_in (fun p hp => T_X8_in v1 0 4 I L p hp) (by decide) rfl (Nat.le_of_ble_eq_true rfl) dX8_become_11 rfl (fun r_2 => ?_)
    refine zo_if_eq (tgt := 21) hC dX8_become_14 (by decide) (fun c_3 => ?_) (fun c_3 => ?_)
    · exact Zf_X8_become_21 hC L v1 v2 I
    · refine zo_iconst (v := 1) hC (by decide) dX8_become_17 ?_
      refine zo_goto (tgt := 22) hC dX8_become_18 (by decide) ?_
      exact Zf_X8_become_22 hC L v1 v2 1 I

theorem T_X8_become (v1 : Int32) (v2 : Int32) (I : e_I) (L : e_L) (p : Int32 × e_I) (hp : f_X8_become v1 v2 I = some p) : Mt yX8_become cX8_become 4 (some .int) 2 gN [.ref 83, .int v1, .int v2] I L ((ph_iI L) p) := zo_enter hp (by decide) (Nat.le_of_ble_eq_true rfl) (fun X hC => Zf_X8_become hC v1 v2 I L)
def f_X8_undo_24 (s0 : Int32) (I : e_I) : Option (Int32 × e_I) :=
  e_b2 (f_X8_isRefused s0 I) (fun (r_1 : Int32) (I_2 : e_I) =>
  if r_1 = 0 then (
    e_let (e_ui I_2 83 33 ((I_2 83 33) - 1)) (fun (I_4 : e_I) =>
    e_b1 (f_X8_lays 85 96 0 ((396 : Int32) * (I_4 83 33)) 396 I_4) (fun (I_5 : e_I) =>
    some ((I_5 83 33), I_5))))
  else (
    some ((-1), I_2)))
set_option maxRecDepth 100000 in
set_option maxHeartbeats 4000000 in
theorem Zf_X8_undo_24 {X : e_X} (hC : e_C X cX8_undo RX8 1 (some .int) 1 gN) (L : e_L) (s0 : Int32) (I : e_I) : Zo X (ph_iI L) (f_X8_undo_24 s0 I) 24 [(0, .ref 83)] [.int s0, .ref 83] I L := by
  unfold f_X8_undo_24
  refine zo_callV_iI hC (ci := 8) [.int s0] [] me_X8_isRefused mlX8_162 im_X8_isRefused se_X8_isRefused rfl (by decide) at_83 (fun p hp => T_X8_isRefused s0 I L p hp) (by decide) rfl (Nat.le_of_ble_eq_true rfl) dX8_undo_24 rfl (fun r_1 I_2 => ?_)
  refine zo_if_eq (tgt := 32) hC dX8_undo_27 (by decide) (fun c_3 => ?_) (fun c_3 => ?_)
  · refine zo_aload_n hC dX8_undo_32 rfl 0 rfl ?_
    refine zo_dup hC rfl dX8_undo_33 ?_
    refine zo_getI hC fk8_178 at_83 dX8_undo_34 ?_
    refine zo_iconst (v := 1) hC (by decide) dX8_undo_37 ?_
    refine zo_isub hC dX8_undo_38 ?_
    refine zo_putI hC fk8_178 ff8_33 at_83 dX8_undo_39 ?_
    refine zo_topI (fun I_4 => ?_)
    refine zo_aload_n hC dX8_undo_42 rfl 0 rfl ?_
    refine zo_getR hC (r := 85) fk8_17 (by decide) gr_83_7 at_83 dX8_undo_43 ?_
    refine zo_iconst (v := 0) hC (by decide) dX8_undo_46 ?_
    refine zo_aload_n hC dX8_undo_47 rfl 0 rfl ?_
    refine zo_getR hC (r := 96) fk8_51 (by decide) gr_83_34 at_83 dX8_undo_48 ?_
    refine zo_sipush (v := 396) hC (by decide) dX8_undo_51 ?_
    refine zo_aload_n hC dX8_undo_54 rfl 0 rfl ?_
    refine zo_getI hC fk8_178 at_83 dX8_undo_55 ?_
    refine zo_imul hC dX8_undo_58 ?_
    refine zo_sipush (v := 396) hC (by decide) dX8_undo_59 ?_
    refine zo_callS_vI hC [.ref 85, .int 0, .ref 96, .int ((396 : Int32) * (I_4 83 33)), .int 396] [] me_X8_lays mlX8_181 sm_X8_lays (fun p hp => T_X8_lays 85 ir_85 96 ir_96 0 ((396 : Int32) * (I_4 83 33)) 396 I_4 L p hp) (by decide) rfl (Nat.le_of_ble_eq_true rfl) dX8_undo_62 rfl (fun I_5 => ?_)
    refine zo_aload_n hC dX8_undo_65 rfl 0 rfl ?_
    refine zo_getI hC fk8_178 at_83 dX8_undo_66 ?_
    exact zo_iret hC rfl dX8_undo_69
  · refine zo_iconst (v := (-1)) hC (by decide) dX8_undo_30 ?_
    exact zo_iret hC rfl dX8_undo_31

def f_X8_undo (I : e_I) : Option (Int32 × e_I) :=
  if (I 83 6) ≠ 0 then (
    if (I 83 33) ≠ 0 then (
      f_X8_undo_24 0 I)
    else (
      f_X8_undo_24 5 I))
  else (
    f_X8_undo_24 1 I)
set_option maxRecDepth 100000 in
set_option maxHeartbeats 4000000 in
theorem Zf_X8_undo {X : e_X} (hC : e_C X cX8_undo RX8 1 (some .int) 1 gN) (I : e_I) (L : e_L) : Zo X (ph_iI L) (f_X8_undo I) 0 [(0, .ref 83)] [] I L := by
  unfold f_X8_undo
  refine zo_aload_n hC dX8_undo_0 rfl 0 rfl ?_
  refine zo_aload_n hC dX8_undo_1 rfl 0 rfl ?_
  refine zo_getZ hC fk8_174 at_83 dX8_undo_2 ?_
  refine zo_if_ne (tgt := 12) hC dX8_undo_5 (by decide) (fun c_1 => ?_) (fun c_1 => ?_)
  · refine zo_aload_n hC dX8_undo_12 rfl 0 rfl ?_
    refine zo_getI hC fk8_178 at_83 dX8_undo_13 ?_
    refine zo_if_ne (tgt := 23) hC dX8_undo_16 (by decide) (fun c_2 => ?_) (fun c_2 => ?_)
    · refine zo_iconst (v := 0) hC (by decide) dX8_undo_23 ?_
      exact Zf_X8_undo_24 hC L 0 I
    · refine zo_iconst (v := 5) hC (by decide) dX8_undo_19 ?_
      refine zo_goto (tgt := 24) hC dX8_undo_20 (by decide) ?_
      exact Zf_X8_undo_24 hC L 5 I
  · refine zo_iconst (v := 1) hC (by decide) dX8_undo_8 ?_
    refine zo_goto (tgt := 24) hC dX8_undo_9 (by decide) ?_
    exact Zf_X8_undo_24 hC L 1 I

theorem T_X8_undo (I : e_I) (L : e_L) (p : Int32 × e_I) (hp : f_X8_undo I = some p) : Mt yX8_undo cX8_undo 1 (some .int) 1 gN [.ref 83] I L ((ph_iI L) p) := zo_enter hp (by decide) (Nat.le_of_ble_eq_true rfl) (fun X hC => Zf_X8_undo hC I L)
def f_X8_named_25 (v3 : Int32) (k47 : Int32 → e_I → Option (Int32 × e_I)) : Nat → Int32 → e_I → Option (Int32 × e_I)
  | 0, _, _ => none
  | n + 1, v2, I =>
    if v2 ≥ v3 then (
      k47 v2 I)
    else (
      e_as (e_ix v2 500 = true) (
      if (I 84 v2.toNatClampNeg) ≠ 32 then (
        k47 v2 I)
      else (
        e_let (v2 + 1) (fun (x_4 : Int32) =>
        f_X8_named_25 v3 k47 n x_4 I))))
set_option maxRecDepth 100000 in
set_option maxHeartbeats 4000000 in
theorem Zf_X8_named_25 {X : e_X} (hC : e_C X cX8_named RX8 5 (some .int) 1 gN) (L : e_L) (v3 : Int32) (k47 : Int32 → e_I → Option (Int32 × e_I)) (hk47 : ∀ (v2 : Int32) (I : e_I), Zo X (ph_iI L) (k47 v2 I) 47 [(0, .ref 83), (2, .int v2), (3, .int v3)] [] I L) : ∀ (n : Nat) (v2 : Int32) (I : e_I), Zo X (ph_iI L) (f_X8_named_25 v3 k47 n v2 I) 25 [(0, .ref 83), (2, .int v2), (3, .int v3)] [] I L := by
  intro n
  induction n with
  | zero => intro v2 I p hp; cases hp
  | succ n ih =>
    intro v2 I
    unfold f_X8_named_25
    refine zo_iload_n hC dX8_named_25 rfl 1 rfl ?_
    refine zo_iload_n hC dX8_named_26 rfl 2 rfl ?_
    refine zo_icmp_ge (tgt := 47) hC dX8_named_27 (by decide) (fun c_1 => ?_) (fun c_1 => ?_)
    · exact hk47 v2 I
    · refine zo_aload_n hC dX8_named_30 rfl 0 rfl ?_
      refine zo_getR hC (r := 84) fk8_13 (by decide) gr_83_4 at_83 dX8_named_31 ?_
      refine zo_iload_n hC dX8_named_34 rfl 1 rfl ?_
      refine zo_as (fun h_2 => ?_)
      refine zo_iald hC ar_84 (e_ix_vp h_2) dX8_named_35 ?_
      refine zo_bipush (v := 32) hC (by decide) dX8_named_36 ?_
      refine zo_icmp_ne (tgt := 47) hC dX8_named_38 (by decide) (fun c_3 => ?_) (fun c_3 => ?_)
      · exact hk47 v2 I
      · refine zo_iinc hC (x := v2) (fun x_4 => [(2, .int x_4), (0, .ref 83), (3, .int v3)]) dX8_named_41 1 rfl (by rfl) (by decide) (fun _ => rfl) (fun x_4 => ?_)
        refine zo_goto (tgt := 25) hC dX8_named_44 (by decide) ?_
        refine zo_sub [1, 0, 2] (lv' := [(0, .ref 83), (2, .int x_4), (3, .int v3)]) rfl ?_
        exact ih x_4 I

def f_X8_named_47 (v2 : Int32) (k71 : Int32 → e_I → Option (Int32 × e_I)) : Nat → Int32 → e_I → Option (Int32 × e_I)
  | 0, _, _ => none
  | n + 1, v3, I =>
    if v3 ≤ v2 then (
      k71 v3 I)
    else (
      e_as (e_ix (v3 - 1) 500 = true) (
      if (I 84 (v3 - 1).toNatClampNeg) ≠ 32 then (
        k71 v3 I)
      else (
        e_let (v3 + (-1)) (fun (x_4 : Int32) =>
        f_X8_named_47 v2 k71 n x_4 I))))
set_option maxRecDepth 100000 in
set_option maxHeartbeats 4000000 in
theorem Zf_X8_named_47 {X : e_X} (hC : e_C X cX8_named RX8 5 (some .int) 1 gN) (L : e_L) (v2 : Int32) (k71 : Int32 → e_I → Option (Int32 × e_I)) (hk71 : ∀ (v3 : Int32) (I : e_I), Zo X (ph_iI L) (k71 v3 I) 71 [(0, .ref 83), (2, .int v2), (3, .int v3)] [] I L) : ∀ (n : Nat) (v3 : Int32) (I : e_I), Zo X (ph_iI L) (f_X8_named_47 v2 k71 n v3 I) 47 [(0, .ref 83), (2, .int v2), (3, .int v3)] [] I L := by
  intro n
  induction n with
  | zero => intro v3 I p hp; cases hp
  | succ n ih =>
    intro v3 I
    unfold f_X8_named_47
    refine zo_iload_n hC dX8_named_47 rfl 2 rfl ?_
    refine zo_iload_n hC dX8_named_48 rfl 1 rfl ?_
    refine zo_icmp_le (tgt := 71) hC dX8_named_49 (by decide) (fun c_1 => ?_) (fun c_1 => ?_)
    · exact hk71 v3 I
    · refine zo_aload_n hC dX8_named_52 rfl 0 rfl ?_
      refine zo_getR hC (r := 84) fk8_13 (by decide) gr_83_4 at_83 dX8_named_53 ?_
      refine zo_iload_n hC dX8_named_56 rfl 2 rfl ?_
      refine zo_iconst (v := 1) hC (by decide) dX8_named_57 ?_
      refine zo_isub hC dX8_named_58 ?_
      refine zo_as (fun h_2 => ?_)
      refine zo_iald hC ar_84 (e_ix_vp h_2) dX8_named_59 ?_
      refine zo_bipush (v := 32) hC (by decide) dX8_named_60 ?_
      refine zo_icmp_ne (tgt := 71) hC dX8_named_62 (by decide) (fun c_3 => ?_) (fun c_3 => ?_)
      · exact hk71 v3 I
      · refine zo_iinc hC (x := v3) (fun x_4 => [(3, .int x_4), (0, .ref 83), (2, .int v2)]) dX8_named_65 2 rfl (by rfl) (by decide) (fun _ => rfl) (fun x_4 => ?_)
        refine zo_goto (tgt := 47) hC dX8_named_68 (by decide) ?_
        refine zo_sub [1, 2, 0] (lv' := [(0, .ref 83), (2, .int v2), (3, .int x_4)]) rfl ?_
        exact ih x_4 I

def f_X8_named_74 (v2 : Int32) (v3 : Int32) (k117 : e_I → Option (Int32 × e_I)) (k108 : Int32 → e_I → Option (Int32 × e_I)) : Nat → Int32 → e_I → Option (Int32 × e_I)
  | 0, _, _ => none
  | n + 1, v4, I =>
    if v3 ≤ v2 then (
      k117 I)
    else (
      if v4 ≥ (I 85 (0 : Int32).toNatClampNeg) then (
        k117 I)
      else (
        e_b1 (f_X8_isAt 87 ((6 : Int32) * v4) v2 v3 I) (fun (r_3 : Int32) =>
        if r_3 = 0 then (
          e_let (v4 + 1) (fun (x_5 : Int32) =>
          f_X8_named_74 v2 v3 k117 k108 n x_5 I))
        else (
          k108 v4 I))))
set_option maxRecDepth 100000 in
set_option maxHeartbeats 4000000 in
theorem Zf_X8_named_74 {X : e_X} (hC : e_C X cX8_named RX8 5 (some .int) 1 gN) (L : e_L) (v2 : Int32) (v3 : Int32) (k117 : e_I → Option (Int32 × e_I)) (k108 : Int32 → e_I → Option (Int32 × e_I)) (hk117 : ∀ (I : e_I), Zo X (ph_iI L) (k117 I) 117 [(0, .ref 83)] [] I L) (hk108 : ∀ (v4 : Int32) (I : e_I), Zo X (ph_iI L) (k108 v4 I) 108 [(4, .int v4)] [] I L) : ∀ (n : Nat) (v4 : Int32) (I : e_I), Zo X (ph_iI L) (f_X8_named_74 v2 v3 k117 k108 n v4 I) 74 [(0, .ref 83), (2, .int v2), (3, .int v3), (4, .int v4)] [] I L := by
  intro n
  induction n with
  | zero => intro v4 I p hp; cases hp
  | succ n ih =>
    intro v4 I
    unfold f_X8_named_74
    refine zo_iload_n hC dX8_named_74 rfl 2 rfl ?_
    refine zo_iload_n hC dX8_named_75 rfl 1 rfl ?_
    refine zo_icmp_le (tgt := 117) hC dX8_named_76 (by decide) (fun c_1 => ?_) (fun c_1 => ?_)
    · refine zo_sub [0] (lv' := [(0, .ref 83)]) rfl ?_
      exact hk117 I
    · refine zo_iload hC dX8_named_79 3 rfl ?_
      refine zo_aload_n hC dX8_named_81 rfl 0 rfl ?_
      refine zo_getR hC (r := 85) fk8_17 (by decide) gr_83_7 at_83 dX8_named_82 ?_
      refine zo_iconst (v := 0) hC (by decide) dX8_named_85 ?_
      refine zo_iald hC ar_85 (e_ix_vp (by decide)) dX8_named_86 ?_
      refine zo_icmp_ge (tgt := 117) hC dX8_named_87 (by decide) (fun c_2 => ?_) (fun c_2 => ?_)
      · refine zo_sub [0] (lv' := [(0, .ref 83)]) rfl ?_
        exact hk117 I
      · refine zo_aload_n hC dX8_named_90 rfl 0 rfl ?_
        refine zo_aload_n hC dX8_named_91 rfl 0 rfl ?_
        refine zo_getR hC (r := 87) fk8_23 (by decide) gr_83_9 at_83 dX8_named_92 ?_
        refine zo_bipush (v := 6) hC (by decide) dX8_named_95 ?_
        refine zo_iload hC dX8_named_97 3 rfl ?_
        refine zo_imul hC dX8_named_99 ?_
        refine zo_iload_n hC dX8_named_100 rfl 1 rfl ?_
        refine zo_iload_n hC dX8_named_101 rfl 2 rfl ?_
        refine zo_callV_i hC (ci := 8) [.ref 87, .int ((6 : Int32) * v4), .int v2, .int v3] [] me_X8_isAt mlX8_133 im_X8_isAt se_X8_isAt rfl (by decide) at_83 (fun p hp => T_X8_isAt 87 ir_87 ((6 : Int32) * v4) v2 v3 I L p hp) (by decide) rfl (Nat.le_of_ble_eq_true rfl) dX8_named_102 rfl (fun r_3 => ?_)
        refine zo_if_eq (tgt := 111) hC dX8_named_105 (by decide) (fun c_4 => ?_) (fun c_4 => ?_)
        · refine zo_iinc hC (x := v4) (fun x_5 => [(4, .int x_5), (0, .ref 83), (2, .int v2), (3, .int v3)]) dX8_named_111 3 rfl (by rfl) (by decide) (fun _ => rfl) (fun x_5 => ?_)
          refine zo_goto (tgt := 74) hC dX8_named_114 (by decide) ?_
          refine zo_sub [1, 2, 3, 0] (lv' := [(0, .ref 83), (2, .int v2), (3, .int v3), (4, .int x_5)]) rfl ?_
          exact ih x_5 I
        · refine zo_sub [3] (lv' := [(4, .int v4)]) rfl ?_
          exact hk108 v4 I

def f_X8_named_24 (v2 : Int32) (s0 : Int32) (I : e_I) : Option (Int32 × e_I) :=
  f_X8_named_25 s0 (fun (v2_1 : Int32) (I_2 : e_I) =>
    f_X8_named_47 v2_1 (fun (v3_3 : Int32) (I_4 : e_I) =>
      f_X8_named_74 v2_1 v3_3 (fun (I_5 : e_I) =>
        e_let (e_ui I_5 83 0 1) (fun (I_6 : e_I) =>
        some (0, I_6))) (fun (v4_7 : Int32) (I_8 : e_I) =>
        some (v4_7, I_8)) e_FU 0 I_4) e_FU s0 I_2) e_FU v2 I
set_option maxRecDepth 100000 in
set_option maxHeartbeats 4000000 in
theorem Zf_X8_named_24 {X : e_X} (hC : e_C X cX8_named RX8 5 (some .int) 1 gN) (L : e_L) (v2 : Int32) (s0 : Int32) (I : e_I) : Zo X (ph_iI L) (f_X8_named_24 v2 s0 I) 24 [(0, .ref 83), (2, .int v2)] [.int s0] I L := by
  unfold f_X8_named_24
  refine zo_istore_n (lv' := [(3, .int s0), (0, .ref 83), (2, .int v2)]) hC dX8_named_24 rfl (by decide) rfl ?_
  refine zo_sub [1, 2, 0] (lv' := [(0, .ref 83), (2, .int v2), (3, .int s0)]) rfl ?_
  refine Zf_X8_named_25 hC L s0 _ (fun v2_1 I_2 => ?_) e_FU v2 I
  · refine Zf_X8_named_47 hC L v2_1 _ (fun v3_3 I_4 => ?_) e_FU s0 I_2
    · refine zo_iconst (v := 0) hC (by decide) dX8_named_71 ?_
      refine zo_istore (lv' := [(4, .int 0), (0, .ref 83), (2, .int v2_1), (3, .int v3_3)]) hC dX8_named_72 (by decide) rfl ?_
      refine zo_sub [1, 2, 3, 0] (lv' := [(0, .ref 83), (2, .int v2_1), (3, .int v3_3), (4, .int 0)]) rfl ?_
      refine Zf_X8_named_74 hC L v2_1 v3_3 _ _ (fun I_5 => ?_) (fun v4_7 I_8 => ?_) e_FU 0 I_4
      · refine zo_aload_n hC dX8_named_117 rfl 0 rfl ?_
        refine zo_iconst (v := 1) hC (by decide) dX8_named_118 ?_
        refine zo_putI hC fk8_54 ff8_0 at_83 dX8_named_119 ?_
        refine zo_topI (fun I_6 => ?_)
        refine zo_iconst (v := 0) hC (by decide) dX8_named_122 ?_
        exact zo_iret hC rfl dX8_named_123
      · refine zo_iload hC dX8_named_108 0 rfl ?_
        exact zo_iret hC rfl dX8_named_110

def f_X8_named (v1 : Int32) (I : e_I) : Option (Int32 × e_I) :=
  e_let (e_ui I 83 0 0) (fun (I_1 : e_I) =>
  e_b1 (f_X8_in v1 0 (I_1 83 5)) (fun (r_2 : Int32) =>
  if r_2 = 0 then (
    f_X8_named_24 0 0 I_1)
  else (
    f_X8_named_24 0 v1 I_1)))
set_option maxRecDepth 100000 in
set_option maxHeartbeats 4000000 in
theorem Zf_X8_named {X : e_X} (hC : e_C X cX8_named RX8 5 (some .int) 1 gN) (v1 : Int32) (I : e_I) (L : e_L) : Zo X (ph_iI L) (f_X8_named v1 I) 0 [(0, .ref 83), (1, .int v1)] [] I L := by
  unfold f_X8_named
  refine zo_aload_n hC dX8_named_0 rfl 0 rfl ?_
  refine zo_iconst (v := 0) hC (by decide) dX8_named_1 ?_
  refine zo_putI hC fk8_54 ff8_0 at_83 dX8_named_2 ?_
  refine zo_topI (fun I_1 => ?_)
  refine zo_iconst (v := 0) hC (by decide) dX8_named_5 ?_
  refine zo_istore_n (lv' := [(2, .int 0), (0, .ref 83), (1, .int v1)]) hC dX8_named_6 rfl (by decide) rfl ?_
  refine zo_iload_n hC dX8_named_7 rfl 2 rfl ?_
  refine zo_iconst (v := 0) hC (by decide) dX8_named_8 ?_
  refine zo_aload_n hC dX8_named_9 rfl 1 rfl ?_
  refine zo_getI hC fk8_60 at_83 dX8_named_10 ?_
  refine zo_callS_i hC [.int v1, .int 0, .int (I_1 83 5)] [] me_X8_in mlX8_83 sm_X8_in (fun p hp => T_X8_in v1 0 (I_1 83 5) I_1 L p hp) (by decide) rfl (Nat.le_of_ble_eq_true rfl) dX8_named_13 rfl (fun r_2 => ?_)
  refine zo_if_eq (tgt := 23) hC dX8_named_16 (by decide) (fun c_3 => ?_) (fun c_3 => ?_)
  · refine zo_iconst (v := 0) hC (by decide) dX8_named_23 ?_
    refine zo_sub [1, 0] (lv' := [(0, .ref 83), (2, .int 0)]) rfl ?_
    exact Zf_X8_named_24 hC L 0 0 I_1
  · refine zo_iload_n hC dX8_named_19 rfl 2 rfl ?_
    refine zo_goto (tgt := 24) hC dX8_named_20 (by decide) ?_
    refine zo_sub [1, 0] (lv' := [(0, .ref 83), (2, .int 0)]) rfl ?_
    exact Zf_X8_named_24 hC L 0 v1 I_1

theorem T_X8_named (v1 : Int32) (I : e_I) (L : e_L) (p : Int32 × e_I) (hp : f_X8_named v1 I = some p) : Mt yX8_named cX8_named 5 (some .int) 1 gN [.ref 83, .int v1] I L ((ph_iI L) p) := zo_enter hp (by decide) (Nat.le_of_ble_eq_true rfl) (fun X hC => Zf_X8_named hC v1 I L)
def f_X8_size (I : e_I) : Option (Int32 × e_I) :=
  e_let (e_ui I 83 0 0) (fun (I_1 : e_I) =>
  some ((I_1 83 5), I_1))
set_option maxRecDepth 100000 in
set_option maxHeartbeats 4000000 in
theorem Zf_X8_size {X : e_X} (hC : e_C X cX8_size RX8 1 (some .int) 0 gN) (I : e_I) (L : e_L) : Zo X (ph_iI L) (f_X8_size I) 0 [(0, .ref 83)] [] I L := by
  unfold f_X8_size
  refine zo_aload_n hC dX8_size_0 rfl 0 rfl ?_
  refine zo_iconst (v := 0) hC (by decide) dX8_size_1 ?_
  refine zo_putI hC fk8_54 ff8_0 at_83 dX8_size_2 ?_
  refine zo_topI (fun I_1 => ?_)
  refine zo_aload_n hC dX8_size_5 rfl 0 rfl ?_
  refine zo_getI hC fk8_60 at_83 dX8_size_6 ?_
  exact zo_iret hC rfl dX8_size_9

theorem T_X8_size (I : e_I) (L : e_L) (p : Int32 × e_I) (hp : f_X8_size I = some p) : Mt yX8_size cX8_size 1 (some .int) 0 gN [.ref 83] I L ((ph_iI L) p) := zo_enter hp (by decide) (Nat.le_of_ble_eq_true rfl) (fun X hC => Zf_X8_size hC I L)
def f_X8_trouble (I : e_I) : Option (Int32 × e_I) :=
  e_let (e_ui I 83 0 0) (fun (I_1 : e_I) =>
  some ((I_1 83 1), I_1))
set_option maxRecDepth 100000 in
set_option maxHeartbeats 4000000 in
theorem Zf_X8_trouble {X : e_X} (hC : e_C X cX8_trouble RX8 1 (some .int) 0 gN) (I : e_I) (L : e_L) : Zo X (ph_iI L) (f_X8_trouble I) 0 [(0, .ref 83)] [] I L := by
  unfold f_X8_trouble
  refine zo_aload_n hC dX8_trouble_0 rfl 0 rfl ?_
  refine zo_iconst (v := 0) hC (by decide) dX8_trouble_1 ?_
  refine zo_putI hC fk8_54 ff8_0 at_83 dX8_trouble_2 ?_
  refine zo_topI (fun I_1 => ?_)
  refine zo_aload_n hC dX8_trouble_5 rfl 0 rfl ?_
  refine zo_getI hC fk8_57 at_83 dX8_trouble_6 ?_
  exact zo_iret hC rfl dX8_trouble_9

theorem T_X8_trouble (I : e_I) (L : e_L) (p : Int32 × e_I) (hp : f_X8_trouble I = some p) : Mt yX8_trouble cX8_trouble 1 (some .int) 0 gN [.ref 83] I L ((ph_iI L) p) := zo_enter hp (by decide) (Nat.le_of_ble_eq_true rfl) (fun X hC => Zf_X8_trouble hC I L)
