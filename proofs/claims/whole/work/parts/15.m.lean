def f_X7_log_26 (v1 : Int32) (v2 : Int32) (s0 : Int32) (I : e_I) : Option (Int32 × e_I) :=
  e_b2 (f_X7_refused s0 I) (fun (r_1 : Int32) (I_2 : e_I) =>
  if r_1 = 0 then (
    if v2 = 0 then (
      e_b1 (f_X0_noted 23 v1 0 I_2) (fun (r_5 : Int32) =>
      some (r_5, I_2)))
    else (
    if v2 = 1 then (
      e_b1 (f_X0_noted 23 v1 1 I_2) (fun (r_7 : Int32) =>
      some (r_7, I_2)))
    else (
    if v2 = 2 then (
      e_b1 (f_X0_noted 23 v1 2 I_2) (fun (r_9 : Int32) =>
      some (r_9, I_2)))
    else (
    if v2 = 3 then (
      e_b1 (f_X0_noted 23 v1 3 I_2) (fun (r_11 : Int32) =>
      some (r_11, I_2)))
    else (
    if v2 = 4 then (
      e_b1 (f_X0_noted 23 v1 4 I_2) (fun (r_13 : Int32) =>
      e_b1 (f_X7_basesOf r_13) (fun (r_14 : Int32) =>
      some (r_14, I_2))))
    else (
    e_b1 (f_X0_noted 23 v1 4 I_2) (fun (r_15 : Int32) =>
    e_b1 (f_X7_outsOf r_15) (fun (r_16 : Int32) =>
    some (r_16, I_2)))))))))
  else (
    some ((-1), I_2)))
set_option maxRecDepth 100000 in
set_option maxHeartbeats 4000000 in
theorem Zf_X7_log_26 {X : e_X} (hC : e_C X cX7_log RX7 3 (some .int) 2 gN) (L : e_L) (v1 : Int32) (v2 : Int32) (s0 : Int32) (I : e_I) : Zo X (ph_iI L) (f_X7_log_26 v1 v2 s0 I) 26 [(0, .ref 0), (1, .int v1), (2, .int v2)] [.int s0, .ref 0] I L := by
  unfold f_X7_log_26
  refine zo_callV_iI hC (ci := 7) [.int s0] [] me_X7_refused mlX7_70 im_X7_refused se_X7_refused rfl (by decide) at_0 (fun p hp => T_X7_refused s0 I L p hp) (by decide) rfl (Nat.le_of_ble_eq_true rfl) dX7_log_26 rfl (fun r_1 I_2 => ?_)
  refine zo_if_eq (tgt := 34) hC dX7_log_29 (by decide) (fun c_3 => ?_) (fun c_3 => ?_)
  · refine zo_iload_n hC dX7_log_34 rfl 2 rfl ?_
    refine zo_ite (fun c_4 => ?_) (fun c_4 => ?_)
    · refine zo_tsw_in (tgt := 68) hC dX7_log_35 (by rw [c_4]; decide) (by rw [c_4]; decide) (by rw [c_4]; rfl) (by decide) ?_
      refine zo_aload_n hC dX7_log_68 rfl 0 rfl ?_
      refine zo_getR hC (r := 23) fk7_23 (by decide) gr_0_2 at_0 dX7_log_69 ?_
      refine zo_iload_n hC dX7_log_72 rfl 1 rfl ?_
      refine zo_iconst (v := 0) hC (by decide) dX7_log_73 ?_
      refine zo_callV_i hC (ci := 0) [.int v1, .int 0] [] me_X0_noted mlX7_278 im_X0_noted se_X0_noted rfl (by decide) at_23 (fun p hp => T_X0_noted 23 isG_23 v1 0 I_2 L p hp) (by decide) rfl (Nat.le_of_ble_eq_true rfl) dX7_log_74 rfl (fun r_5 => ?_)
      exact zo_iret hC rfl dX7_log_77
    refine zo_ite (fun c_6 => ?_) (fun c_6 => ?_)
    · refine zo_tsw_in (tgt := 78) hC dX7_log_35 (by rw [c_6]; decide) (by rw [c_6]; decide) (by rw [c_6]; rfl) (by decide) ?_
      refine zo_aload_n hC dX7_log_78 rfl 0 rfl ?_
      refine zo_getR hC (r := 23) fk7_23 (by decide) gr_0_2 at_0 dX7_log_79 ?_
      refine zo_iload_n hC dX7_log_82 rfl 1 rfl ?_
      refine zo_iconst (v := 1) hC (by decide) dX7_log_83 ?_
      refine zo_callV_i hC (ci := 0) [.int v1, .int 1] [] me_X0_noted mlX7_278 im_X0_noted se_X0_noted rfl (by decide) at_23 (fun p hp => T_X0_noted 23 isG_23 v1 1 I_2 L p hp) (by decide) rfl (Nat.le_of_ble_eq_true rfl) dX7_log_84 rfl (fun r_7 => ?_)
      exact zo_iret hC rfl dX7_log_87
    refine zo_ite (fun c_8 => ?_) (fun c_8 => ?_)
    · refine zo_tsw_in (tgt := 88) hC dX7_log_35 (by rw [c_8]; decide) (by rw [c_8]; decide) (by rw [c_8]; rfl) (by decide) ?_
      refine zo_aload_n hC dX7_log_88 rfl 0 rfl ?_
      refine zo_getR hC (r := 23) fk7_23 (by decide) gr_0_2 at_0 dX7_log_89 ?_
      refine zo_iload_n hC dX7_log_92 rfl 1 rfl ?_
      refine zo_iconst (v := 2) hC (by decide) dX7_log_93 ?_
      refine zo_callV_i hC (ci := 0) [.int v1, .int 2] [] me_X0_noted mlX7_278 im_X0_noted se_X0_noted rfl (by decide) at_23 (fun p hp => T_X0_noted 23 isG_23 v1 2 I_2 L p hp) (by decide) rfl (Nat.le_of_ble_eq_true rfl) dX7_log_94 rfl (fun r_9 => ?_)
      exact zo_iret hC rfl dX7_log_97
    refine zo_ite (fun c_10 => ?_) (fun c_10 => ?_)
    · refine zo_tsw_in (tgt := 98) hC dX7_log_35 (by rw [c_10]; decide) (by rw [c_10]; decide) (by rw [c_10]; rfl) (by decide) ?_
      refine zo_aload_n hC dX7_log_98 rfl 0 rfl ?_
      refine zo_getR hC (r := 23) fk7_23 (by decide) gr_0_2 at_0 dX7_log_99 ?_
      refine zo_iload_n hC dX7_log_102 rfl 1 rfl ?_
      refine zo_iconst (v := 3) hC (by decide) dX7_log_103 ?_
      refine zo_callV_i hC (ci := 0) [.int v1, .int 3] [] me_X0_noted mlX7_278 im_X0_noted se_X0_noted rfl (by decide) at_23 (fun p hp => T_X0_noted 23 isG_23 v1 3 I_2 L p hp) (by decide) rfl (Nat.le_of_ble_eq_true rfl) dX7_log_104 rfl (fun r_11 => ?_)
      exact zo_iret hC rfl dX7_log_107
    refine zo_ite (fun c_12 => ?_) (fun c_12 => ?_)
    · refine zo_tsw_in (tgt := 108) hC dX7_log_35 (by rw [c_12]; decide) (by rw [c_12]; decide) (by rw [c_12]; rfl) (by decide) ?_
      refine zo_aload_n hC dX7_log_108 rfl 0 rfl ?_
      refine zo_getR hC (r := 23) fk7_23 (by decide) gr_0_2 at_0 dX7_log_109 ?_
      refine zo_iload_n hC dX7_log_112 rfl 1 rfl ?_
      refine zo_iconst (v := 4) hC (by decide) dX7_log_113 ?_
      refine zo_callV_i hC (ci := 0) [.int v1, .int 4] [] me_X0_noted mlX7_278 im_X0_noted se_X0_noted rfl (by decide) at_23 (fun p hp => T_X0_noted 23 isG_23 v1 4 I_2 L p hp) (by decide) rfl (Nat.le_of_ble_eq_true rfl) dX7_log_114 rfl (fun r_13 => ?_)
      refine zo_callS_i hC [.int r_13] [] me_X7_basesOf mlX7_120 sm_X7_basesOf (fun p hp => T_X7_basesOf r_13 I_2 L p hp) (by decide) rfl (Nat.le_of_ble_eq_true rfl) dX7_log_117 rfl (fun r_14 => ?_)
      exact zo_iret hC rfl dX7_log_120
    refine zo_tsw_out (tgt := 121) hC dX7_log_35 (by have q0 := e_sw (n := 0) (by decide) (by decide) c_4; have q1 := e_sw (n := 1) (by decide) (by decide) c_6; have q2 := e_sw (n := 2) (by decide) (by decide) c_8; have q3 := e_sw (n := 3) (by decide) (by decide) c_10; have q4 := e_sw (n := 4) (by decide) (by decide) c_12; omega) (by decide) ?_
    refine zo_aload_n hC dX7_log_121 rfl 0 rfl ?_
    refine zo_getR hC (r := 23) fk7_23 (by decide) gr_0_2 at_0 dX7_log_122 ?_
    refine zo_iload_n hC dX7_log_125 rfl 1 rfl ?_
    refine zo_iconst (v := 4) hC (by decide) dX7_log_126 ?_
    refine zo_callV_i hC (ci := 0) [.int v1, .int 4] [] me_X0_noted mlX7_278 im_X0_noted se_X0_noted rfl (by decide) at_23 (fun p hp => T_X0_noted 23 isG_23 v1 4 I_2 L p hp) (by decide) rfl (Nat.le_of_ble_eq_true rfl) dX7_log_127 rfl (fun r_15 => ?_)
    refine zo_callS_i hC [.int r_15] [] me_X7_outsOf mlX7_123 sm_X7_outsOf (fun p hp => T_X7_outsOf r_15 I_2 L p hp) (by decide) rfl (Nat.le_of_ble_eq_true rfl) dX7_log_130 rfl (fun r_16 => ?_)
    exact zo_iret hC rfl dX7_log_133
  · refine zo_iconst (v := (-1)) hC (by decide) dX7_log_32 ?_
    exact zo_iret hC rfl dX7_log_33

def f_X7_log_25 (v1 : Int32) (v2 : Int32) (I : e_I) : Option (Int32 × e_I) :=
  f_X7_log_26 v1 v2 1 I
set_option maxRecDepth 100000 in
set_option maxHeartbeats 4000000 in
theorem Zf_X7_log_25 {X : e_X} (hC : e_C X cX7_log RX7 3 (some .int) 2 gN) (L : e_L) (v1 : Int32) (v2 : Int32) (I : e_I) : Zo X (ph_iI L) (f_X7_log_25 v1 v2 I) 25 [(0, .ref 0), (1, .int v1), (2, .int v2)] [.ref 0] I L := by
  unfold f_X7_log_25
  refine zo_iconst (v := 1) hC (by decide) dX7_log_25 ?_
  exact Zf_X7_log_26 hC L v1 v2 1 I

def f_X7_log (v1 : Int32) (v2 : Int32) (I : e_I) : Option (Int32 × e_I) :=
  e_b1 (f_X0_hasRow 23 v1 I) (fun (r_1 : Int32) =>
  if r_1 = 0 then (
    f_X7_log_25 v1 v2 I)
  else (
    e_b1 (f_X7_within v2 0 5) (fun (r_3 : Int32) =>
    if r_3 = 0 then (
      f_X7_log_25 v1 v2 I)
    else (
      f_X7_log_26 v1 v2 0 I))))
set_option maxRecDepth 100000 in
set_option maxHeartbeats 4000000 in
theorem Zf_X7_log {X : e_X} (hC : e_C X cX7_log RX7 3 (some .int) 2 gN) (v1 : Int32) (v2 : Int32) (I : e_I) (L : e_L) : Zo X (ph_iI L) (f_X7_log v1 v2 I) 0 [(0, .ref 0), (1, .int v1), (2, .int v2)] [] I L := by
  unfold f_X7_log
  refine zo_aload_n hC dX7_log_0 rfl 0 rfl ?_
  refine zo_aload_n hC dX7_log_1 rfl 0 rfl ?_
  refine zo_getR hC (r := 23) fk7_23 (by decide) gr_0_2 at_0 dX7_log_2 ?_
  refine zo_iload_n hC dX7_log_5 rfl 1 rfl ?_
  refine zo_callV_i hC (ci := 0) [.int v1] [.ref 0] me_X0_hasRow mlX7_275 im_X0_hasRow se_X0_hasRow rfl (by decide) at_23 (fun p hp => T_X0_hasRow 23 isG_23 v1 I L p hp) (by decide) rfl (Nat.le_of_ble_eq_true rfl) dX7_log_6 rfl (fun r_1 => ?_)
  refine zo_if_eq (tgt := 25) hC dX7_log_9 (by decide) (fun c_2 => ?_) (fun c_2 => ?_)
  · exact Zf_X7_log_25 hC L v1 v2 I
  · refine zo_iload_n hC dX7_log_12 rfl 2 rfl ?_
    refine zo_iconst (v := 0) hC (by decide) dX7_log_13 ?_
    refine zo_iconst (v := 5) hC (by decide) dX7_log_14 ?_
    refine zo_callS_i hC [.int v2, .int 0, .int 5] [.ref 0] me_X7_within mlX7_66 sm_X7_within (fun p hp => T_X7_within v2 0 5 I L p hp) (by decide) rfl (Nat.le_of_ble_eq_true rfl) dX7_log_15 rfl (fun r_3 => ?_)
    refine zo_if_eq (tgt := 25) hC dX7_log_18 (by decide) (fun c_4 => ?_) (fun c_4 => ?_)
    · exact Zf_X7_log_25 hC L v1 v2 I
    · refine zo_iconst (v := 0) hC (by decide) dX7_log_21 ?_
      refine zo_goto (tgt := 26) hC dX7_log_22 (by decide) ?_
      exact Zf_X7_log_26 hC L v1 v2 0 I

theorem T_X7_log (v1 : Int32) (v2 : Int32) (I : e_I) (L : e_L) (p : Int32 × e_I) (hp : f_X7_log v1 v2 I = some p) : Mt yX7_log cX7_log 3 (some .int) 2 gN [.ref 0, .int v1, .int v2] I L ((ph_iI L) p) := zo_enter hp (by decide) (Nat.le_of_ble_eq_true rfl) (fun X hC => Zf_X7_log hC v1 v2 I L)
def f_X1_addedBy (g1 : Nat) (v2 : Int32) (v3 : Int32) (I : e_I) (L : e_L) : Option (Int64) :=
  e_b1 (f_X0_noted g1 v2 2 I) (fun (r_1 : Int32) =>
  e_b1 (f_X1_unit v3 L) (fun (r_2 : Int64) =>
  e_let (r_1.toInt64 * r_2) (fun (x_3 : Int64) =>
  e_b1 (f_X0_noted g1 v2 5 I) (fun (r_4 : Int32) =>
  e_b1 (f_X1_tableAt v3 r_4 L) (fun (r_5 : Int64) =>
  e_b1 (f_X0_noted g1 v2 4 I) (fun (r_6 : Int32) =>
  e_b1 (f_X1_tableAt v3 r_6 L) (fun (r_7 : Int64) =>
  some ((x_3 + r_5) - r_7))))))))
set_option maxRecDepth 100000 in
set_option maxHeartbeats 4000000 in
theorem Zf_X1_addedBy {X : e_X} (hC : e_C X cX1_addedBy RX1 6 (some .long) 2 gN) (g1 : Nat) (hg1 : e_isG g1) (v2 : Int32) (v3 : Int32) (I : e_I) (L : e_L) : Zo X (ph_l I L) (f_X1_addedBy g1 v2 v3 I L) 0 [(0, .ref 11), (1, .ref g1), (2, .int v2), (3, .int v3)] [] I L := by
  unfold f_X1_addedBy
  refine zo_aload_n hC dX1_addedBy_0 rfl 1 rfl ?_
  refine zo_iload_n hC dX1_addedBy_1 rfl 2 rfl ?_
  refine zo_iconst (v := 2) hC (by decide) dX1_addedBy_2 ?_
  refine zo_callV_i hC (ci := 0) [.int v2, .int 2] [] me_X0_noted mlX1_79 im_X0_noted se_X0_noted rfl (by decide) (atG hg1) (fun p hp => T_X0_noted g1 hg1 v2 2 I L p hp) (by decide) rfl (Nat.le_of_ble_eq_true rfl) dX1_addedBy_3 rfl (fun r_1 => ?_)
  refine zo_i2l hC dX1_addedBy_6 ?_
  refine zo_aload_n hC dX1_addedBy_7 rfl 0 rfl ?_
  refine zo_iload_n hC dX1_addedBy_8 rfl 3 rfl ?_
  refine zo_callV_l hC (ci := 1) [.int v3] [.long r_1.toInt64] me_X1_unit mlX1_82 im_X1_unit se_X1_unit rfl (by decide) at_11 (fun p hp => T_X1_unit v3 I L p hp) (by decide) rfl (Nat.le_of_ble_eq_true rfl) dX1_addedBy_9 rfl (fun r_2 => ?_)
  refine zo_lmul hC dX1_addedBy_12 ?_
  refine zo_topl (fun x_3 => ?_)
  refine zo_lstore (lv' := [(4, .long x_3), (0, .ref 11), (1, .ref g1), (2, .int v2), (3, .int v3)]) hC dX1_addedBy_13 (by decide) rfl ?_
  refine zo_lload hC dX1_addedBy_15 0 rfl ?_
  refine zo_aload_n hC dX1_addedBy_17 rfl 1 rfl ?_
  refine zo_iload_n hC dX1_addedBy_18 rfl 4 rfl ?_
  refine zo_aload_n hC dX1_addedBy_19 rfl 2 rfl ?_
  refine zo_iload_n hC dX1_addedBy_20 rfl 3 rfl ?_
  refine zo_iconst (v := 5) hC (by decide) dX1_addedBy_21 ?_
  refine zo_callV_i hC (ci := 0) [.int v2, .int 5] [.int v3, .ref 11, .long x_3] me_X0_noted mlX1_79 im_X0_noted se_X0_noted rfl (by decide) (atG hg1) (fun p hp => T_X0_noted g1 hg1 v2 5 I L p hp) (by decide) rfl (Nat.le_of_ble_eq_true rfl) dX1_addedBy_22 rfl (fun r_4 => ?_)
  refine zo_callV_l hC (ci := 1) [.int v3, .int r_4] [.long x_3] me_X1_tableAt mlX1_86 im_X1_tableAt se_X1_tableAt rfl (by decide) at_11 (fun p hp => T_X1_tableAt v3 r_4 I L p hp) (by decide) rfl (Nat.le_of_ble_eq_true rfl) dX1_addedBy_25 rfl (fun r_5 => ?_)
  refine zo_ladd hC dX1_addedBy_28 ?_
  refine zo_aload_n hC dX1_addedBy_29 rfl 1 rfl ?_
  refine zo_iload_n hC dX1_addedBy_30 rfl 4 rfl ?_
  refine zo_aload_n hC dX1_addedBy_31 rfl 2 rfl ?_
  refine zo_iload_n hC dX1_addedBy_32 rfl 3 rfl ?_
  refine zo_iconst (v := 4) hC (by decide) dX1_addedBy_33 ?_
  refine zo_callV_i hC (ci := 0) [.int v2, .int 4] [.int v3, .ref 11, .long (x_3 + r_5)] me_X0_noted mlX1_79 im_X0_noted se_X0_noted rfl (by decide) (atG hg1) (fun p hp => T_X0_noted g1 hg1 v2 4 I L p hp) (by decide) rfl (Nat.le_of_ble_eq_true rfl) dX1_addedBy_34 rfl (fun r_6 => ?_)
  refine zo_callV_l hC (ci := 1) [.int v3, .int r_6] [.long (x_3 + r_5)] me_X1_tableAt mlX1_86 im_X1_tableAt se_X1_tableAt rfl (by decide) at_11 (fun p hp => T_X1_tableAt v3 r_6 I L p hp) (by decide) rfl (Nat.le_of_ble_eq_true rfl) dX1_addedBy_37 rfl (fun r_7 => ?_)
  refine zo_lsub hC dX1_addedBy_40 ?_
  exact zo_lret hC rfl dX1_addedBy_41

theorem T_X1_addedBy (g1 : Nat) (hg1 : e_isG g1) (v2 : Int32) (v3 : Int32) (I : e_I) (L : e_L) (p : Int64) (hp : f_X1_addedBy g1 v2 v3 I L = some p) : Mt yX1_addedBy cX1_addedBy 6 (some .long) 2 gN [.ref 11, .ref g1, .int v2, .int v3] I L ((ph_l I L) p) := zo_enter hp (by decide) (Nat.le_of_ble_eq_true rfl) (fun X hC => Zf_X1_addedBy hC g1 hg1 v2 v3 I L)
def f_X7_added_25 (v1 : Int32) (v2 : Int32) (v3 : Int32) (s0 : Int32) (I : e_I) (L : e_L) : Option (Int64 × e_I × e_L) :=
  e_b1 (f_X7_troubleOfDepth s0 v2 5 I) (fun (r_1 : Int32) =>
  e_b2 (f_X7_refused r_1 I) (fun (r_2 : Int32) (I_3 : e_I) =>
  if r_2 = 0 then (
    e_b2 (f_X1_layTable 23 v2 I_3 L) (fun (I_5 : e_I) (L_6 : e_L) =>
    e_b1 (f_X1_addedBy 23 v1 v2 I_5 L_6) (fun (r_7 : Int64) =>
    e_b1 (f_X1_unit v2 L_6) (fun (r_8 : Int64) =>
    e_b1 (f_X7_part r_7 r_8 v3) (fun (r_9 : Int64) =>
    some (r_9, I_5, L_6))))))
  else (
    some ((-1), I_3, L))))
set_option maxRecDepth 100000 in
set_option maxHeartbeats 4000000 in
theorem Zf_X7_added_25 {X : e_X} (hC : e_C X cX7_added RX7 4 (some .long) 4 gN) (v1 : Int32) (v2 : Int32) (v3 : Int32) (s0 : Int32) (I : e_I) (L : e_L) : Zo X (ph_lIL) (f_X7_added_25 v1 v2 v3 s0 I L) 25 [(0, .ref 0), (1, .int v1), (2, .int v2), (3, .int v3)] [.int s0, .ref 0, .ref 0] I L := by
  unfold f_X7_added_25
  refine zo_iload_n hC dX7_added_25 rfl 2 rfl ?_
  refine zo_iconst (v := 5) hC (by decide) dX7_added_26 ?_
  refine zo_callV_i hC (ci := 7) [.int s0, .int v2, .int 5] [.ref 0] me_X7_troubleOfDepth mlX7_252 im_X7_troubleOfDepth se_X7_troubleOfDepth rfl (by decide) at_0 (fun p hp => T_X7_troubleOfDepth s0 v2 5 I L p hp) (by decide) rfl (Nat.le_of_ble_eq_true rfl) dX7_added_27 rfl (fun r_1 => ?_)
  refine zo_callV_iI hC (ci := 7) [.int r_1] [] me_X7_refused mlX7_70 im_X7_refused se_X7_refused rfl (by decide) at_0 (fun p hp => T_X7_refused r_1 I L p hp) (by decide) rfl (Nat.le_of_ble_eq_true rfl) dX7_added_30 rfl (fun r_2 I_3 => ?_)
  refine zo_if_eq (tgt := 40) hC dX7_added_33 (by decide) (fun c_4 => ?_) (fun c_4 => ?_)
  · refine zo_aload_n hC dX7_added_40 rfl 0 rfl ?_
    refine zo_getR hC (r := 11) fk7_40 (by decide) gr_0_5 at_0 dX7_added_41 ?_
    refine zo_aload_n hC dX7_added_44 rfl 0 rfl ?_
    refine zo_getR hC (r := 23) fk7_23 (by decide) gr_0_2 at_0 dX7_added_45 ?_
    refine zo_iload_n hC dX7_added_48 rfl 2 rfl ?_
    refine zo_callV_vIL hC (ci := 1) [.ref 23, .int v2] [] me_X1_layTable mlX7_239 im_X1_layTable se_X1_layTable rfl (by decide) at_11 (fun p hp => T_X1_layTable 23 isG_23 v2 I_3 L p hp) (by decide) rfl (Nat.le_of_ble_eq_true rfl) dX7_added_49 rfl (fun I_5 L_6 => ?_)
    refine zo_aload_n hC dX7_added_52 rfl 0 rfl ?_
    refine zo_getR hC (r := 11) fk7_40 (by decide) gr_0_5 at_0 dX7_added_53 ?_
    refine zo_aload_n hC dX7_added_56 rfl 0 rfl ?_
    refine zo_getR hC (r := 23) fk7_23 (by decide) gr_0_2 at_0 dX7_added_57 ?_
    refine zo_iload_n hC dX7_added_60 rfl 1 rfl ?_
    refine zo_iload_n hC dX7_added_61 rfl 2 rfl ?_
    refine zo_callV_l hC (ci := 1) [.ref 23, .int v1, .int v2] [] me_X1_addedBy mlX7_281 im_X1_addedBy se_X1_addedBy rfl (by decide) at_11 (fun p hp => T_X1_addedBy 23 isG_23 v1 v2 I_5 L_6 p hp) (by decide) rfl (Nat.le_of_ble_eq_true rfl) dX7_added_62 rfl (fun r_7 => ?_)
    refine zo_aload_n hC dX7_added_65 rfl 0 rfl ?_
    refine zo_getR hC (r := 11) fk7_40 (by decide) gr_0_5 at_0 dX7_added_66 ?_
    refine zo_iload_n hC dX7_added_69 rfl 2 rfl ?_
    refine zo_callV_l hC (ci := 1) [.int v2] [.long r_7] me_X1_unit mlX7_213 im_X1_unit se_X1_unit rfl (by decide) at_11 (fun p hp => T_X1_unit v2 I_5 L_6 p hp) (by decide) rfl (Nat.le_of_ble_eq_true rfl) dX7_added_70 rfl (fun r_8 => ?_)
    refine zo_iload_n hC dX7_added_73 rfl 3 rfl ?_
    refine zo_callS_l hC [.long r_7, .long r_8, .int v3] [] me_X7_part mlX7_217 sm_X7_part (fun p hp => T_X7_part r_7 r_8 v3 I_5 L_6 p hp) (by decide) rfl (Nat.le_of_ble_eq_true rfl) dX7_added_74 rfl (fun r_9 => ?_)
    exact zo_lret hC rfl dX7_added_77
  · refine zo_ldc2 (v := (-1)) hC clX7_207 dX7_added_36 ?_
    exact zo_lret hC rfl dX7_added_39

def f_X7_added_24 (v1 : Int32) (v2 : Int32) (v3 : Int32) (I : e_I) (L : e_L) : Option (Int64 × e_I × e_L) :=
  f_X7_added_25 v1 v2 v3 0 I L
set_option maxRecDepth 100000 in
set_option maxHeartbeats 4000000 in
theorem Zf_X7_added_24 {X : e_X} (hC : e_C X cX7_added RX7 4 (some .long) 4 gN) (v1 : Int32) (v2 : Int32) (v3 : Int32) (I : e_I) (L : e_L) : Zo X (ph_lIL) (f_X7_added_24 v1 v2 v3 I L) 24 [(0, .ref 0), (1, .int v1), (2, .int v2), (3, .int v3)] [.ref 0, .ref 0] I L := by
  unfold f_X7_added_24
  refine zo_iconst (v := 0) hC (by decide) dX7_added_24 ?_
  exact Zf_X7_added_25 hC v1 v2 v3 0 I L

def f_X7_added (v1 : Int32) (v2 : Int32) (v3 : Int32) (I : e_I) (L : e_L) : Option (Int64 × e_I × e_L) :=
  e_b1 (f_X0_hasRow 23 v1 I) (fun (r_1 : Int32) =>
  if r_1 = 0 then (
    f_X7_added_24 v1 v2 v3 I L)
  else (
    e_b1 (f_X7_isPart v3) (fun (r_3 : Int32) =>
    if r_3 = 0 then (
      f_X7_added_24 v1 v2 v3 I L)
    else (
      f_X7_added_25 v1 v2 v3 1 I L))))
set_option maxRecDepth 100000 in
set_option maxHeartbeats 4000000 in
theorem Zf_X7_added {X : e_X} (hC : e_C X cX7_added RX7 4 (some .long) 4 gN) (v1 : Int32) (v2 : Int32) (v3 : Int32) (I : e_I) (L : e_L) : Zo X (ph_lIL) (f_X7_added v1 v2 v3 I L) 0 [(0, .ref 0), (1, .int v1), (2, .int v2), (3, .int v3)] [] I L := by
  unfold f_X7_added
  refine zo_aload_n hC dX7_added_0 rfl 0 rfl ?_
  refine zo_aload_n hC dX7_added_1 rfl 0 rfl ?_
  refine zo_aload_n hC dX7_added_2 rfl 0 rfl ?_
  refine zo_getR hC (r := 23) fk7_23 (by decide) gr_0_2 at_0 dX7_added_3 ?_
  refine zo_iload_n hC dX7_added_6 rfl 1 rfl ?_
  refine zo_callV_i hC (ci := 0) [.int v1] [.ref 0, .ref 0] me_X0_hasRow mlX7_275 im_X0_hasRow se_X0_hasRow rfl (by decide) at_23 (fun p hp => T_X0_hasRow 23 isG_23 v1 I L p hp) (by decide) rfl (Nat.le_of_ble_eq_true rfl) dX7_added_7 rfl (fun r_1 => ?_)
  refine zo_if_eq (tgt := 24) hC dX7_added_10 (by decide) (fun c_2 => ?_) (fun c_2 => ?_)
  · exact Zf_X7_added_24 hC v1 v2 v3 I L
  · refine zo_iload_n hC dX7_added_13 rfl 3 rfl ?_
    refine zo_callS_i hC [.int v3] [.ref 0, .ref 0] me_X7_isPart mlX7_200 sm_X7_isPart (fun p hp => T_X7_isPart v3 I L p hp) (by decide) rfl (Nat.le_of_ble_eq_true rfl) dX7_added_14 rfl (fun r_3 => ?_)
    refine zo_if_eq (tgt := 24) hC dX7_added_17 (by decide) (fun c_4 => ?_) (fun c_4 => ?_)
    · exact Zf_X7_added_24 hC v1 v2 v3 I L
    · refine zo_iconst (v := 1) hC (by decide) dX7_added_20 ?_
      refine zo_goto (tgt := 25) hC dX7_added_21 (by decide) ?_
      exact Zf_X7_added_25 hC v1 v2 v3 1 I L

theorem T_X7_added (v1 : Int32) (v2 : Int32) (v3 : Int32) (I : e_I) (L : e_L) (p : Int64 × e_I × e_L) (hp : f_X7_added v1 v2 v3 I L = some p) : Mt yX7_added cX7_added 4 (some .long) 4 gN [.ref 0, .int v1, .int v2, .int v3] I L ((ph_lIL) p) := zo_enter hp (by decide) (Nat.le_of_ble_eq_true rfl) (fun X hC => Zf_X7_added hC v1 v2 v3 I L)
def f_X7_addedTogether_65 (v1 : Int32) (v2 : Int32) (k17 : Int64 → Int32 → e_I → e_L → Option (Int64 × e_I × e_L)) (k71 : Int64 → e_I → e_L → Option (Int64 × e_I × e_L)) (v3 : Int64) (v5 : Int32) (I : e_I) (L : e_L) : Option (Int64 × e_I × e_L) :=
  e_let (v5 + 1) (fun (x_1 : Int32) =>
  k17 v3 x_1 I L)
set_option maxRecDepth 100000 in
set_option maxHeartbeats 4000000 in
theorem Zf_X7_addedTogether_65 {X : e_X} (hC : e_C X cX7_addedTogether RX7 6 (some .long) 4 gN) (v1 : Int32) (v2 : Int32) (k17 : Int64 → Int32 → e_I → e_L → Option (Int64 × e_I × e_L)) (k71 : Int64 → e_I → e_L → Option (Int64 × e_I × e_L)) (hk17 : ∀ (v3 : Int64) (v5 : Int32) (I : e_I) (L : e_L), Zo X (ph_lIL) (k17 v3 v5 I L) 17 [(0, .ref 0), (1, .int v1), (2, .int v2), (3, .long v3), (5, .int v5)] [] I L) (hk71 : ∀ (v3 : Int64) (I : e_I) (L : e_L), Zo X (ph_lIL) (k71 v3 I L) 71 [(3, .long v3)] [] I L) (v3 : Int64) (v5 : Int32) (I : e_I) (L : e_L) : Zo X (ph_lIL) (f_X7_addedTogether_65 v1 v2 k17 k71 v3 v5 I L) 65 [(0, .ref 0), (1, .int v1), (2, .int v2), (3, .long v3), (5, .int v5)] [] I L := by
  unfold f_X7_addedTogether_65
  refine zo_iinc hC (x := v5) (fun x_1 => [(5, .int x_1), (0, .ref 0), (1, .int v1), (2, .int v2), (3, .long v3)]) dX7_addedTogether_65 4 rfl (by rfl) (by decide) (fun _ => rfl) (fun x_1 => ?_)
  refine zo_goto (tgt := 17) hC dX7_addedTogether_68 (by decide) ?_
  refine zo_sub [1, 2, 3, 4, 0] (lv' := [(0, .ref 0), (1, .int v1), (2, .int v2), (3, .long v3), (5, .int x_1)]) rfl ?_
  exact hk17 v3 x_1 I L

def f_X7_addedTogether_48 (v1 : Int32) (v2 : Int32) (k17 : Int64 → Int32 → e_I → e_L → Option (Int64 × e_I × e_L)) (k71 : Int64 → e_I → e_L → Option (Int64 × e_I × e_L)) (v3 : Int64) (v5 : Int32) (I : e_I) (L : e_L) : Option (Int64 × e_I × e_L) :=
  e_b1 (f_X1_addedBy 23 v5 v2 I L) (fun (r_1 : Int64) =>
  e_let (v3 + r_1) (fun (x_2 : Int64) =>
  f_X7_addedTogether_65 v1 v2 k17 k71 x_2 v5 I L))
set_option maxRecDepth 100000 in
set_option maxHeartbeats 4000000 in
theorem Zf_X7_addedTogether_48 {X : e_X} (hC : e_C X cX7_addedTogether RX7 6 (some .long) 4 gN) (v1 : Int32) (v2 : Int32) (k17 : Int64 → Int32 → e_I → e_L → Option (Int64 × e_I × e_L)) (k71 : Int64 → e_I → e_L → Option (Int64 × e_I × e_L)) (hk17 : ∀ (v3 : Int64) (v5 : Int32) (I : e_I) (L : e_L), Zo X (ph_lIL) (k17 v3 v5 I L) 17 [(0, .ref 0), (1, .int v1), (2, .int v2), (3, .long v3), (5, .int v5)] [] I L) (hk71 : ∀ (v3 : Int64) (I : e_I) (L : e_L), Zo X (ph_lIL) (k71 v3 I L) 71 [(3, .long v3)] [] I L) (v3 : Int64) (v5 : Int32) (I : e_I) (L : e_L) : Zo X (ph_lIL) (f_X7_addedTogether_48 v1 v2 k17 k71 v3 v5 I L) 48 [(0, .ref 0), (1, .int v1), (2, .int v2), (3, .long v3), (5, .int v5)] [] I L := by
  unfold f_X7_addedTogether_48
  refine zo_lload_n hC dX7_addedTogether_48 rfl 3 rfl ?_
  refine zo_aload_n hC dX7_addedTogether_49 rfl 0 rfl ?_
  refine zo_getR hC (r := 11) fk7_40 (by decide) gr_0_5 at_0 dX7_addedTogether_50 ?_
  refine zo_aload_n hC dX7_addedTogether_53 rfl 0 rfl ?_
  refine zo_getR hC (r := 23) fk7_23 (by decide) gr_0_2 at_0 dX7_addedTogether_54 ?_
  refine zo_iload hC dX7_addedTogether_57 4 rfl ?_
  refine zo_iload_n hC dX7_addedTogether_59 rfl 2 rfl ?_
  refine zo_callV_l hC (ci := 1) [.ref 23, .int v5, .int v2] [.long v3] me_X1_addedBy mlX7_281 im_X1_addedBy se_X1_addedBy rfl (by decide) at_11 (fun p hp => T_X1_addedBy 23 isG_23 v5 v2 I L p hp) (by decide) rfl (Nat.le_of_ble_eq_true rfl) dX7_addedTogether_60 rfl (fun r_1 => ?_)
  refine zo_ladd hC dX7_addedTogether_63 ?_
  refine zo_topl (fun x_2 => ?_)
  refine zo_lstore_n (lv' := [(3, .long x_2), (0, .ref 0), (1, .int v1), (2, .int v2), (5, .int v5)]) hC dX7_addedTogether_64 rfl (by decide) rfl ?_
  refine zo_sub [1, 2, 3, 0, 4] (lv' := [(0, .ref 0), (1, .int v1), (2, .int v2), (3, .long x_2), (5, .int v5)]) rfl ?_
  exact Zf_X7_addedTogether_65 hC v1 v2 k17 k71 hk17 hk71 x_2 v5 I L

def f_X7_addedTogether_17 (v1 : Int32) (v2 : Int32) (k71 : Int64 → e_I → e_L → Option (Int64 × e_I × e_L)) : Nat → Int64 → Int32 → e_I → e_L → Option (Int64 × e_I × e_L)
  | 0, _, _, _, _ => none
  | n + 1, v3, v5, I, L =>
    if v5 ≥ (I 23 6) then (
      k71 v3 I L)
    else (
      if v1 = (-1) then (
        f_X7_addedTogether_48 v1 v2 (fun v3 v5 I L => f_X7_addedTogether_17 v1 v2 k71 n v3 v5 I L) k71 v3 v5 I L)
      else (
        e_b1 (f_X0_noted 23 v5 0 I) (fun (r_3 : Int32) =>
        if r_3 ≠ v1 then (
          f_X7_addedTogether_65 v1 v2 (fun v3 v5 I L => f_X7_addedTogether_17 v1 v2 k71 n v3 v5 I L) k71 v3 v5 I L)
        else (
          f_X7_addedTogether_48 v1 v2 (fun v3 v5 I L => f_X7_addedTogether_17 v1 v2 k71 n v3 v5 I L) k71 v3 v5 I L))))
set_option maxRecDepth 100000 in
set_option maxHeartbeats 4000000 in
theorem Zf_X7_addedTogether_17 {X : e_X} (hC : e_C X cX7_addedTogether RX7 6 (some .long) 4 gN) (v1 : Int32) (v2 : Int32) (k71 : Int64 → e_I → e_L → Option (Int64 × e_I × e_L)) (hk71 : ∀ (v3 : Int64) (I : e_I) (L : e_L), Zo X (ph_lIL) (k71 v3 I L) 71 [(3, .long v3)] [] I L) : ∀ (n : Nat) (v3 : Int64) (v5 : Int32) (I : e_I) (L : e_L), Zo X (ph_lIL) (f_X7_addedTogether_17 v1 v2 k71 n v3 v5 I L) 17 [(0, .ref 0), (1, .int v1), (2, .int v2), (3, .long v3), (5, .int v5)] [] I L := by
  intro n
  induction n with
  | zero => intro v3 v5 I L p hp; cases hp
  | succ n ih =>
    intro v3 v5 I L
    unfold f_X7_addedTogether_17
    refine zo_iload hC dX7_addedTogether_17 4 rfl ?_
    refine zo_aload_n hC dX7_addedTogether_19 rfl 0 rfl ?_
    refine zo_getR hC (r := 23) fk7_23 (by decide) gr_0_2 at_0 dX7_addedTogether_20 ?_
    refine zo_getI hC fk7_135 at_23 dX7_addedTogether_23 ?_
    refine zo_icmp_ge (tgt := 71) hC dX7_addedTogether_26 (by decide) (fun c_1 => ?_) (fun c_1 => ?_)
    · refine zo_sub [3] (lv' := [(3, .long v3)]) rfl ?_
      exact hk71 v3 I L
    · refine zo_iload_n hC dX7_addedTogether_29 rfl 1 rfl ?_
      refine zo_iconst (v := (-1)) hC (by decide) dX7_addedTogether_30 ?_
      refine zo_icmp_eq (tgt := 48) hC dX7_addedTogether_31 (by decide) (fun c_2 => ?_) (fun c_2 => ?_)
      · exact Zf_X7_addedTogether_48 hC v1 v2 (fun v3 v5 I L => f_X7_addedTogether_17 v1 v2 k71 n v3 v5 I L) k71 (fun v3 v5 I L => ih v3 v5 I L) hk71 v3 v5 I L
      · refine zo_aload_n hC dX7_addedTogether_34 rfl 0 rfl ?_
        refine zo_getR hC (r := 23) fk7_23 (by decide) gr_0_2 at_0 dX7_addedTogether_35 ?_
        refine zo_iload hC dX7_addedTogether_38 4 rfl ?_
        refine zo_iconst (v := 0) hC (by decide) dX7_addedTogether_40 ?_
        refine zo_callV_i hC (ci := 0) [.int v5, .int 0] [] me_X0_noted mlX7_278 im_X0_noted se_X0_noted rfl (by decide) at_23 (fun p hp => T_X0_noted 23 isG_23 v5 0 I L p hp) (by decide) rfl (Nat.le_of_ble_eq_true rfl) dX7_addedTogether_41 rfl (fun r_3 => ?_)
        refine zo_iload_n hC dX7_addedTogether_44 rfl 1 rfl ?_
        refine zo_icmp_ne (tgt := 65) hC dX7_addedTogether_45 (by decide) (fun c_4 => ?_) (fun c_4 => ?_)
        · exact Zf_X7_addedTogether_65 hC v1 v2 (fun v3 v5 I L => f_X7_addedTogether_17 v1 v2 k71 n v3 v5 I L) k71 (fun v3 v5 I L => ih v3 v5 I L) hk71 v3 v5 I L
        · exact Zf_X7_addedTogether_48 hC v1 v2 (fun v3 v5 I L => f_X7_addedTogether_17 v1 v2 k71 n v3 v5 I L) k71 (fun v3 v5 I L => ih v3 v5 I L) hk71 v3 v5 I L

def f_X7_addedTogether (v1 : Int32) (v2 : Int32) (I : e_I) (L : e_L) : Option (Int64 × e_I × e_L) :=
  e_b2 (f_X1_layTable 23 v2 I L) (fun (I_1 : e_I) (L_2 : e_L) =>
  f_X7_addedTogether_17 v1 v2 (fun (v3_3 : Int64) (I_4 : e_I) (L_5 : e_L) =>
    some (v3_3, I_4, L_5)) e_FU 0 0 I_1 L_2)
set_option maxRecDepth 100000 in
set_option maxHeartbeats 4000000 in
theorem Zf_X7_addedTogether {X : e_X} (hC : e_C X cX7_addedTogether RX7 6 (some .long) 4 gN) (v1 : Int32) (v2 : Int32) (I : e_I) (L : e_L) : Zo X (ph_lIL) (f_X7_addedTogether v1 v2 I L) 0 [(0, .ref 0), (1, .int v1), (2, .int v2)] [] I L := by
  unfold f_X7_addedTogether
  refine zo_aload_n hC dX7_addedTogether_0 rfl 0 rfl ?_
  refine zo_getR hC (r := 11) fk7_40 (by decide) gr_0_5 at_0 dX7_addedTogether_1 ?_
  refine zo_aload_n hC dX7_addedTogether_4 rfl 0 rfl ?_
  refine zo_getR hC (r := 23) fk7_23 (by decide) gr_0_2 at_0 dX7_addedTogether_5 ?_
  refine zo_iload_n hC dX7_addedTogether_8 rfl 2 rfl ?_
  refine zo_callV_vIL hC (ci := 1) [.ref 23, .int v2] [] me_X1_layTable mlX7_239 im_X1_layTable se_X1_layTable rfl (by decide) at_11 (fun p hp => T_X1_layTable 23 isG_23 v2 I L p hp) (by decide) rfl (Nat.le_of_ble_eq_true rfl) dX7_addedTogether_9 rfl (fun I_1 L_2 => ?_)
  refine zo_lconst (v := 0) hC (by decide) dX7_addedTogether_12 ?_
  refine zo_lstore_n (lv' := [(3, .long 0), (0, .ref 0), (1, .int v1), (2, .int v2)]) hC dX7_addedTogether_13 rfl (by decide) rfl ?_
  refine zo_iconst (v := 0) hC (by decide) dX7_addedTogether_14 ?_
  refine zo_istore (lv' := [(5, .int 0), (3, .long 0), (0, .ref 0), (1, .int v1), (2, .int v2)]) hC dX7_addedTogether_15 (by decide) rfl ?_
  refine zo_sub [2, 3, 4, 1, 0] (lv' := [(0, .ref 0), (1, .int v1), (2, .int v2), (3, .long 0), (5, .int 0)]) rfl ?_
  refine Zf_X7_addedTogether_17 hC v1 v2 _ (fun v3_3 I_4 L_5 => ?_) e_FU 0 0 I_1 L_2
  · refine zo_lload_n hC dX7_addedTogether_71 rfl 0 rfl ?_
    exact zo_lret hC rfl dX7_addedTogether_72

theorem T_X7_addedTogether (v1 : Int32) (v2 : Int32) (I : e_I) (L : e_L) (p : Int64 × e_I × e_L) (hp : f_X7_addedTogether v1 v2 I L = some p) : Mt yX7_addedTogether cX7_addedTogether 6 (some .long) 4 gN [.ref 0, .int v1, .int v2] I L ((ph_lIL) p) := zo_enter hp (by decide) (Nat.le_of_ble_eq_true rfl) (fun X hC => Zf_X7_addedTogether hC v1 v2 I L)
def f_X7_credit_25 (v1 : Int32) (v2 : Int32) (v3 : Int32) (s0 : Int32) (I : e_I) (L : e_L) : Option (Int64 × e_I × e_L) :=
  e_b1 (f_X7_troubleOfDepth s0 v2 5 I) (fun (r_1 : Int32) =>
  e_b2 (f_X7_refused r_1 I) (fun (r_2 : Int32) (I_3 : e_I) =>
  if r_2 = 0 then (
    e_b3 (f_X7_addedTogether v1 v2 I_3 L) (fun (r_5 : Int64) (I_6 : e_I) (L_7 : e_L) =>
    e_b1 (f_X1_unit v2 L_7) (fun (r_8 : Int64) =>
    e_b1 (f_X7_part r_5 r_8 v3) (fun (r_9 : Int64) =>
    some (r_9, I_6, L_7)))))
  else (
    some ((-1), I_3, L))))
set_option maxRecDepth 100000 in
set_option maxHeartbeats 4000000 in
theorem Zf_X7_credit_25 {X : e_X} (hC : e_C X cX7_credit RX7 4 (some .long) 5 gN) (v1 : Int32) (v2 : Int32) (v3 : Int32) (s0 : Int32) (I : e_I) (L : e_L) : Zo X (ph_lIL) (f_X7_credit_25 v1 v2 v3 s0 I L) 25 [(0, .ref 0), (1, .int v1), (2, .int v2), (3, .int v3)] [.int s0, .ref 0, .ref 0] I L := by
  unfold f_X7_credit_25
  refine zo_iload_n hC dX7_credit_25 rfl 2 rfl ?_
  refine zo_iconst (v := 5) hC (by decide) dX7_credit_26 ?_
  refine zo_callV_i hC (ci := 7) [.int s0, .int v2, .int 5] [.ref 0] me_X7_troubleOfDepth mlX7_252 im_X7_troubleOfDepth se_X7_troubleOfDepth rfl (by decide) at_0 (fun p hp => T_X7_troubleOfDepth s0 v2 5 I L p hp) (by decide) rfl (Nat.le_of_ble_eq_true rfl) dX7_credit_27 rfl (fun r_1 => ?_)
  refine zo_callV_iI hC (ci := 7) [.int r_1] [] me_X7_refused mlX7_70 im_X7_refused se_X7_refused rfl (by decide) at_0 (fun p hp => T_X7_refused r_1 I L p hp) (by decide) rfl (Nat.le_of_ble_eq_true rfl) dX7_credit_30 rfl (fun r_2 I_3 => ?_)
  refine zo_if_eq (tgt := 40) hC dX7_credit_33 (by decide) (fun c_4 => ?_) (fun c_4 => ?_)
  · refine zo_aload_n hC dX7_credit_40 rfl 0 rfl ?_
    refine zo_iload_n hC dX7_credit_41 rfl 1 rfl ?_
    refine zo_iload_n hC dX7_credit_42 rfl 2 rfl ?_
    refine zo_callV_lIL hC (ci := 7) [.int v1, .int v2] [] me_X7_addedTogether mlX7_285 im_X7_addedTogether se_X7_addedTogether rfl (by decide) at_0 (fun p hp => T_X7_addedTogether v1 v2 I_3 L p hp) (by decide) rfl (Nat.le_of_ble_eq_true rfl) dX7_credit_43 rfl (fun r_5 I_6 L_7 => ?_)
    refine zo_aload_n hC dX7_credit_46 rfl 0 rfl ?_
    refine zo_getR hC (r := 11) fk7_40 (by decide) gr_0_5 at_0 dX7_credit_47 ?_
    refine zo_iload_n hC dX7_credit_50 rfl 2 rfl ?_
    refine zo_callV_l hC (ci := 1) [.int v2] [.long r_5] me_X1_unit mlX7_213 im_X1_unit se_X1_unit rfl (by decide) at_11 (fun p hp => T_X1_unit v2 I_6 L_7 p hp) (by decide) rfl (Nat.le_of_ble_eq_true rfl) dX7_credit_51 rfl (fun r_8 => ?_)
    refine zo_iload_n hC dX7_credit_54 rfl 3 rfl ?_
    refine zo_callS_l hC [.long r_5, .long r_8, .int v3] [] me_X7_part mlX7_217 sm_X7_part (fun p hp => T_X7_part r_5 r_8 v3 I_6 L_7 p hp) (by decide) rfl (Nat.le_of_ble_eq_true rfl) dX7_credit_55 rfl (fun r_9 => ?_)
    exact zo_lret hC rfl dX7_credit_58
  · refine zo_ldc2 (v := (-1)) hC clX7_207 dX7_credit_36 ?_
    exact zo_lret hC rfl dX7_credit_39

def f_X7_credit_24 (v1 : Int32) (v2 : Int32) (v3 : Int32) (I : e_I) (L : e_L) : Option (Int64 × e_I × e_L) :=
  f_X7_credit_25 v1 v2 v3 0 I L
set_option maxRecDepth 100000 in
set_option maxHeartbeats 4000000 in
theorem Zf_X7_credit_24 {X : e_X} (hC : e_C X cX7_credit RX7 4 (some .long) 5 gN) (v1 : Int32) (v2 : Int32) (v3 : Int32) (I : e_I) (L : e_L) : Zo X (ph_lIL) (f_X7_credit_24 v1 v2 v3 I L) 24 [(0, .ref 0), (1, .int v1), (2, .int v2), (3, .int v3)] [.ref 0, .ref 0] I L := by
  unfold f_X7_credit_24
  refine zo_iconst (v := 0) hC (by decide) dX7_credit_24 ?_
  exact Zf_X7_credit_25 hC v1 v2 v3 0 I L

def f_X7_credit (v1 : Int32) (v2 : Int32) (v3 : Int32) (I : e_I) (L : e_L) : Option (Int64 × e_I × e_L) :=
  e_b1 (f_X0_hasBatter 23 v1 I) (fun (r_1 : Int32) =>
  if r_1 = 0 then (
    f_X7_credit_24 v1 v2 v3 I L)
  else (
    e_b1 (f_X7_isPart v3) (fun (r_3 : Int32) =>
    if r_3 = 0 then (
      f_X7_credit_24 v1 v2 v3 I L)
    else (
      f_X7_credit_25 v1 v2 v3 1 I L))))
set_option maxRecDepth 100000 in
set_option maxHeartbeats 4000000 in
theorem Zf_X7_credit {X : e_X} (hC : e_C X cX7_credit RX7 4 (some .long) 5 gN) (v1 : Int32) (v2 : Int32) (v3 : Int32) (I : e_I) (L : e_L) : Zo X (ph_lIL) (f_X7_credit v1 v2 v3 I L) 0 [(0, .ref 0), (1, .int v1), (2, .int v2), (3, .int v3)] [] I L := by
  unfold f_X7_credit
  refine zo_aload_n hC dX7_credit_0 rfl 0 rfl ?_
  refine zo_aload_n hC dX7_credit_1 rfl 0 rfl ?_
  refine zo_aload_n hC dX7_credit_2 rfl 0 rfl ?_
  refine zo_getR hC (r := 23) fk7_23 (by decide) gr_0_2 at_0 dX7_credit_3 ?_
  refine zo_iload_n hC dX7_credit_6 rfl 1 rfl ?_
  refine zo_callV_i hC (ci := 0) [.int v1] [.ref 0, .ref 0] me_X0_hasBatter mlX7_142 im_X0_hasBatter se_X0_hasBatter rfl (by decide) at_23 (fun p hp => T_X0_hasBatter 23 isG_23 v1 I L p hp) (by decide) rfl (Nat.le_of_ble_eq_true rfl) dX7_credit_7 rfl (fun r_1 => ?_)
  refine zo_if_eq (tgt := 24) hC dX7_credit_10 (by decide) (fun c_2 => ?_) (fun c_2 => ?_)
  · exact Zf_X7_credit_24 hC v1 v2 v3 I L
  · refine zo_iload_n hC dX7_credit_13 rfl 3 rfl ?_
    refine zo_callS_i hC [.int v3] [.ref 0, .ref 0] me_X7_isPart mlX7_200 sm_X7_isPart (fun p hp => T_X7_isPart v3 I L p hp) (by decide) rfl (Nat.le_of_ble_eq_true rfl) dX7_credit_14 rfl (fun r_3 => ?_)
    refine zo_if_eq (tgt := 24) hC dX7_credit_17 (by decide) (fun c_4 => ?_) (fun c_4 => ?_)
    · exact Zf_X7_credit_24 hC v1 v2 v3 I L
    · refine zo_iconst (v := 1) hC (by decide) dX7_credit_20 ?_
      refine zo_goto (tgt := 25) hC dX7_credit_21 (by decide) ?_
      exact Zf_X7_credit_25 hC v1 v2 v3 1 I L

theorem T_X7_credit (v1 : Int32) (v2 : Int32) (v3 : Int32) (I : e_I) (L : e_L) (p : Int64 × e_I × e_L) (hp : f_X7_credit v1 v2 v3 I L = some p) : Mt yX7_credit cX7_credit 4 (some .long) 5 gN [.ref 0, .int v1, .int v2, .int v3] I L ((ph_lIL) p) := zo_enter hp (by decide) (Nat.le_of_ble_eq_true rfl) (fun X hC => Zf_X7_credit hC v1 v2 v3 I L)
def f_X7_all (v1 : Int32) (v2 : Int32) (I : e_I) (L : e_L) : Option (Int64 × e_I × e_L) :=
  e_b1 (f_X7_isPart v2) (fun (r_1 : Int32) =>
  e_b1 (f_X7_troubleOfDepth r_1 v1 5 I) (fun (r_2 : Int32) =>
  e_b2 (f_X7_refused r_2 I) (fun (r_3 : Int32) (I_4 : e_I) =>
  if r_3 = 0 then (
    e_b3 (f_X7_addedTogether (-1) v1 I_4 L) (fun (r_6 : Int64) (I_7 : e_I) (L_8 : e_L) =>
    e_b1 (f_X1_unit v1 L_8) (fun (r_9 : Int64) =>
    e_b1 (f_X7_part r_6 r_9 v2) (fun (r_10 : Int64) =>
    some (r_10, I_7, L_8)))))
  else (
    some ((-1), I_4, L)))))
set_option maxRecDepth 100000 in
set_option maxHeartbeats 4000000 in
theorem Zf_X7_all {X : e_X} (hC : e_C X cX7_all RX7 3 (some .long) 5 gN) (v1 : Int32) (v2 : Int32) (I : e_I) (L : e_L) : Zo X (ph_lIL) (f_X7_all v1 v2 I L) 0 [(0, .ref 0), (1, .int v1), (2, .int v2)] [] I L := by
  unfold f_X7_all
  refine zo_aload_n hC dX7_all_0 rfl 0 rfl ?_
  refine zo_aload_n hC dX7_all_1 rfl 0 rfl ?_
  refine zo_iload_n hC dX7_all_2 rfl 2 rfl ?_
  refine zo_callS_i hC [.int v2] [.ref 0, .ref 0] me_X7_isPart mlX7_200 sm_X7_isPart (fun p hp => T_X7_isPart v2 I L p hp) (by decide) rfl (Nat.le_of_ble_eq_true rfl) dX7_all_3 rfl (fun r_1 => ?_)
  refine zo_iload_n hC dX7_all_6 rfl 1 rfl ?_
  refine zo_iconst (v := 5) hC (by decide) dX7_all_7 ?_
  refine zo_callV_i hC (ci := 7) [.int r_1, .int v1, .int 5] [.ref 0] me_X7_troubleOfDepth mlX7_252 im_X7_troubleOfDepth se_X7_troubleOfDepth rfl (by decide) at_0 (fun p hp => T_X7_troubleOfDepth r_1 v1 5 I L p hp) (by decide) rfl (Nat.le_of_ble_eq_true rfl) dX7_all_8 rfl (fun r_2 => ?_)
  refine zo_callV_iI hC (ci := 7) [.int r_2] [] me_X7_refused mlX7_70 im_X7_refused se_X7_refused rfl (by decide) at_0 (fun p hp => T_X7_refused r_2 I L p hp) (by decide) rfl (Nat.le_of_ble_eq_true rfl) dX7_all_11 rfl (fun r_3 I_4 => ?_)
  refine zo_if_eq (tgt := 21) hC dX7_all_14 (by decide) (fun c_5 => ?_) (fun c_5 => ?_)
  · refine zo_aload_n hC dX7_all_21 rfl 0 rfl ?_
    refine zo_iconst (v := (-1)) hC (by decide) dX7_all_22 ?_
    refine zo_iload_n hC dX7_all_23 rfl 1 rfl ?_
    refine zo_callV_lIL hC (ci := 7) [.int (-1), .int v1] [] me_X7_addedTogether mlX7_285 im_X7_addedTogether se_X7_addedTogether rfl (by decide) at_0 (fun p hp => T_X7_addedTogether (-1) v1 I_4 L p hp) (by decide) rfl (Nat.le_of_ble_eq_true rfl) dX7_all_24 rfl (fun r_6 I_7 L_8 => ?_)
    refine zo_aload_n hC dX7_all_27 rfl 0 rfl ?_
    refine zo_getR hC (r := 11) fk7_40 (by decide) gr_0_5 at_0 dX7_all_28 ?_
    refine zo_iload_n hC dX7_all_31 rfl 1 rfl ?_
    refine zo_callV_l hC (ci := 1) [.int v1] [.long r_6] me_X1_unit mlX7_213 im_X1_unit se_X1_unit rfl (by decide) at_11 (fun p hp => T_X1_unit v1 I_7 L_8 p hp) (by decide) rfl (Nat.le_of_ble_eq_true rfl) dX7_all_32 rfl (fun r_9 => ?_)
    refine zo_iload_n hC dX7_all_35 rfl 2 rfl ?_
    refine zo_callS_l hC [.long r_6, .long r_9, .int v2] [] me_X7_part mlX7_217 sm_X7_part (fun p hp => T_X7_part r_6 r_9 v2 I_7 L_8 p hp) (by decide) rfl (Nat.le_of_ble_eq_true rfl) dX7_all_36 rfl (fun r_10 => ?_)
    exact zo_lret hC rfl dX7_all_39
  · refine zo_ldc2 (v := (-1)) hC clX7_207 dX7_all_17 ?_
    exact zo_lret hC rfl dX7_all_20

theorem T_X7_all (v1 : Int32) (v2 : Int32) (I : e_I) (L : e_L) (p : Int64 × e_I × e_L) (hp : f_X7_all v1 v2 I L = some p) : Mt yX7_all cX7_all 3 (some .long) 5 gN [.ref 0, .int v1, .int v2] I L ((ph_lIL) p) := zo_enter hp (by decide) (Nat.le_of_ble_eq_true rfl) (fun X hC => Zf_X7_all hC v1 v2 I L)
def f_X7_troubleOfPlay_11 (I : e_I) : Option (Int32) :=
  some 1
set_option maxRecDepth 100000 in
set_option maxHeartbeats 4000000 in
theorem Zf_X7_troubleOfPlay_11 {X : e_X} (hC : e_C X cX7_troubleOfPlay RX7 4 (some .int) 1 gN) (I : e_I) (L : e_L) : Zo X (ph_i I L) (f_X7_troubleOfPlay_11 I) 11 [] [] I L := by
  unfold f_X7_troubleOfPlay_11
  refine zo_iconst (v := 1) hC (by decide) dX7_troubleOfPlay_11 ?_
  exact zo_iret hC rfl dX7_troubleOfPlay_12

def f_X7_troubleOfPlay_33 (I : e_I) (s0 : Int32) : Option (Int32) :=
  some s0
set_option maxRecDepth 100000 in
set_option maxHeartbeats 4000000 in
theorem Zf_X7_troubleOfPlay_33 {X : e_X} (hC : e_C X cX7_troubleOfPlay RX7 4 (some .int) 1 gN) (I : e_I) (L : e_L) (s0 : Int32) : Zo X (ph_i I L) (f_X7_troubleOfPlay_33 I s0) 33 [] [.int s0] I L := by
  unfold f_X7_troubleOfPlay_33
  exact zo_iret hC rfl dX7_troubleOfPlay_33

def f_X7_troubleOfPlay_32 (I : e_I) : Option (Int32) :=
  f_X7_troubleOfPlay_33 I 2
set_option maxRecDepth 100000 in
set_option maxHeartbeats 4000000 in
theorem Zf_X7_troubleOfPlay_32 {X : e_X} (hC : e_C X cX7_troubleOfPlay RX7 4 (some .int) 1 gN) (I : e_I) (L : e_L) : Zo X (ph_i I L) (f_X7_troubleOfPlay_32 I) 32 [] [] I L := by
  unfold f_X7_troubleOfPlay_32
  refine zo_iconst (v := 2) hC (by decide) dX7_troubleOfPlay_32 ?_
  exact Zf_X7_troubleOfPlay_33 hC I L 2

def f_X7_troubleOfPlay (v1 : Int32) (v2 : Int32) (v3 : Int32) (I : e_I) : Option (Int32) :=
  e_b1 (f_X7_hasText I) (fun (r_1 : Int32) =>
  if r_1 = 0 then (
    f_X7_troubleOfPlay_11 I )
  else (
    if v1 ≠ 0 then (
      e_b1 (f_X7_within v2 1 2147483646) (fun (r_4 : Int32) =>
      if r_4 = 0 then (
        f_X7_troubleOfPlay_32 I )
      else (
        if v3 = 0 then (
          f_X7_troubleOfPlay_32 I )
        else (
          f_X7_troubleOfPlay_33 I 0))))
    else (
      f_X7_troubleOfPlay_11 I )))
set_option maxRecDepth 100000 in
set_option maxHeartbeats 4000000 in
theorem Zf_X7_troubleOfPlay {X : e_X} (hC : e_C X cX7_troubleOfPlay RX7 4 (some .int) 1 gN) (v1 : Int32) (v2 : Int32) (v3 : Int32) (I : e_I) (L : e_L) : Zo X (ph_i I L) (f_X7_troubleOfPlay v1 v2 v3 I) 0 [(0, .ref 0), (1, .int v1), (2, .int v2), (3, .int v3)] [] I L := by
  unfold f_X7_troubleOfPlay
  refine zo_aload_n hC dX7_troubleOfPlay_0 rfl 0 rfl ?_
  refine zo_callV_i hC (ci := 7) [] [] me_X7_hasText mlX7_110 im_X7_hasText se_X7_hasText rfl (by decide) at_0 (fun p hp => T_X7_hasText I L p hp) (by decide) rfl (Nat.le_of_ble_eq_true rfl) dX7_troubleOfPlay_1 rfl (fun r_1 => ?_)
  refine zo_if_eq (tgt := 11) hC dX7_troubleOfPlay_4 (by decide) (fun c_2 => ?_) (fun c_2 => ?_)
  · refine zo_sub [] (lv' := []) rfl ?_
    exact Zf_X7_troubleOfPlay_11 hC I L 
  · refine zo_iload_n hC dX7_troubleOfPlay_7 rfl 1 rfl ?_
    refine zo_if_ne (tgt := 13) hC dX7_troubleOfPlay_8 (by decide) (fun c_3 => ?_) (fun c_3 => ?_)
    · refine zo_iload_n hC dX7_troubleOfPlay_13 rfl 2 rfl ?_
      refine zo_iconst (v := 1) hC (by decide) dX7_troubleOfPlay_14 ?_
      refine zo_ldcw hC cnX7_311 dX7_troubleOfPlay_15 ?_
      refine zo_callS_i hC [.int v2, .int 1, .int 2147483646] [] me_X7_within mlX7_66 sm_X7_within (fun p hp => T_X7_within v2 1 2147483646 I L p hp) (by decide) rfl (Nat.le_of_ble_eq_true rfl) dX7_troubleOfPlay_18 rfl (fun r_4 => ?_)
      refine zo_if_eq (tgt := 32) hC dX7_troubleOfPlay_21 (by decide) (fun c_5 => ?_) (fun c_5 => ?_)
      · refine zo_sub [] (lv' := []) rfl ?_
        exact Zf_X7_troubleOfPlay_32 hC I L 
      · refine zo_iload_n hC dX7_troubleOfPlay_24 rfl 3 rfl ?_
        refine zo_if_eq (tgt := 32) hC dX7_troubleOfPlay_25 (by decide) (fun c_6 => ?_) (fun c_6 => ?_)
        · refine zo_sub [] (lv' := []) rfl ?_
          exact Zf_X7_troubleOfPlay_32 hC I L 
        · refine zo_iconst (v := 0) hC (by decide) dX7_troubleOfPlay_28 ?_
          refine zo_goto (tgt := 33) hC dX7_troubleOfPlay_29 (by decide) ?_
          refine zo_sub [] (lv' := []) rfl ?_
          exact Zf_X7_troubleOfPlay_33 hC I L 0
    · refine zo_sub [] (lv' := []) rfl ?_
      exact Zf_X7_troubleOfPlay_11 hC I L 

theorem T_X7_troubleOfPlay (v1 : Int32) (v2 : Int32) (v3 : Int32) (I : e_I) (L : e_L) (p : Int32) (hp : f_X7_troubleOfPlay v1 v2 v3 I = some p) : Mt yX7_troubleOfPlay cX7_troubleOfPlay 4 (some .int) 1 gN [.ref 0, .int v1, .int v2, .int v3] I L ((ph_i I L) p) := zo_enter hp (by decide) (Nat.le_of_ble_eq_true rfl) (fun X hC => Zf_X7_troubleOfPlay hC v1 v2 v3 I L)
def f_X0_copyFrom (g : Nat) (g1 : Nat) (I : e_I) : Option (e_I) :=
  e_let (e_ui I g 0 (I g1 0)) (fun (I_1 : e_I) =>
  e_let (e_ui I_1 g 1 (I_1 g1 1)) (fun (I_2 : e_I) =>
  e_let (e_ui I_2 g 2 (I_2 g1 2)) (fun (I_3 : e_I) =>
  e_let (e_ui I_3 g 3 (I_3 g1 3)) (fun (I_4 : e_I) =>
  e_let (e_ui I_4 g 4 (I_4 g1 4)) (fun (I_5 : e_I) =>
  e_let (e_ui I_5 g 5 (I_5 g1 5)) (fun (I_6 : e_I) =>
  e_let (e_ui I_6 g 6 (I_6 g1 6)) (fun (I_7 : e_I) =>
  e_let (e_ui I_7 g 7 (I_7 g1 7)) (fun (I_8 : e_I) =>
  e_let (e_cpy I_8 (g1 + 1) ((0 : Int32).toNatClampNeg) (g + 1) ((0 : Int32).toNatClampNeg) ((54 : Int32).toNatClampNeg)) (fun (I_9 : e_I) =>
  e_let (e_cpy I_9 (g1 + 2) ((0 : Int32).toNatClampNeg) (g + 2) ((0 : Int32).toNatClampNeg) ((5 : Int32).toNatClampNeg)) (fun (I_10 : e_I) =>
  e_let (e_cpy I_10 (g1 + 3) ((0 : Int32).toNatClampNeg) (g + 3) ((0 : Int32).toNatClampNeg) ((9 : Int32).toNatClampNeg)) (fun (I_11 : e_I) =>
  e_let (e_cpy I_11 (g1 + 4) ((0 : Int32).toNatClampNeg) (g + 4) ((0 : Int32).toNatClampNeg) ((240 : Int32).toNatClampNeg)) (fun (I_12 : e_I) =>
  some I_12))))))))))))
set_option maxRecDepth 100000 in
set_option maxHeartbeats 4000000 in
theorem Zf_X0_copyFrom {X : e_X} (hC : e_C X cX0_copyFrom RX0 2 none 0 gN) (g : Nat) (hg : e_isG g) (g1 : Nat) (hg1 : e_isG g1) (I : e_I) (L : e_L) : Zo X (ph_vI L) (f_X0_copyFrom g g1 I) 0 [(0, .ref g), (1, .ref g1)] [] I L := by
  unfold f_X0_copyFrom
  refine zo_aload_n hC dX0_copyFrom_0 rfl 0 rfl ?_
  refine zo_aload_n hC dX0_copyFrom_1 rfl 1 rfl ?_
  refine zo_getI hC fk0_30 (atG hg1) dX0_copyFrom_2 ?_
  refine zo_putI hC fk0_30 ff0_0 (atG hg) dX0_copyFrom_5 ?_
  refine zo_topI (fun I_1 => ?_)
  refine zo_aload_n hC dX0_copyFrom_8 rfl 0 rfl ?_
  refine zo_aload_n hC dX0_copyFrom_9 rfl 1 rfl ?_
  refine zo_getI hC fk0_42 (atG hg1) dX0_copyFrom_10 ?_
  refine zo_putI hC fk0_42 ff0_1 (atG hg) dX0_copyFrom_13 ?_
  refine zo_topI (fun I_2 => ?_)
  refine zo_aload_n hC dX0_copyFrom_16 rfl 0 rfl ?_
  refine zo_aload_n hC dX0_copyFrom_17 rfl 1 rfl ?_
  refine zo_getI hC fk0_45 (atG hg1) dX0_copyFrom_18 ?_
  refine zo_putI hC fk0_45 ff0_2 (atG hg) dX0_copyFrom_21 ?_
  refine zo_topI (fun I_3 => ?_)
  refine zo_aload_n hC dX0_copyFrom_24 rfl 0 rfl ?_
  refine zo_aload_n hC dX0_copyFrom_25 rfl 1 rfl ?_
  refine zo_getI hC fk0_48 (atG hg1) dX0_copyFrom_26 ?_
  refine zo_putI hC fk0_48 ff0_3 (atG hg) dX0_copyFrom_29 ?_
  refine zo_topI (fun I_4 => ?_)
  refine zo_aload_n hC dX0_copyFrom_32 rfl 0 rfl ?_
  refine zo_aload_n hC dX0_copyFrom_33 rfl 1 rfl ?_
  refine zo_getI hC fk0_51 (atG hg1) dX0_copyFrom_34 ?_
  refine zo_putI hC fk0_51 ff0_4 (atG hg) dX0_copyFrom_37 ?_
  refine zo_topI (fun I_5 => ?_)
  refine zo_aload_n hC dX0_copyFrom_40 rfl 0 rfl ?_
  refine zo_aload_n hC dX0_copyFrom_41 rfl 1 rfl ?_
  refine zo_getI hC fk0_54 (atG hg1) dX0_copyFrom_42 ?_
  refine zo_putI hC fk0_54 ff0_5 (atG hg) dX0_copyFrom_45 ?_
  refine zo_topI (fun I_6 => ?_)
  refine zo_aload_n hC dX0_copyFrom_48 rfl 0 rfl ?_
  refine zo_aload_n hC dX0_copyFrom_49 rfl 1 rfl ?_
  refine zo_getI hC fk0_57 (atG hg1) dX0_copyFrom_50 ?_
  refine zo_putI hC fk0_57 ff0_6 (atG hg) dX0_copyFrom_53 ?_
  refine zo_topI (fun I_7 => ?_)
  refine zo_aload_n hC dX0_copyFrom_56 rfl 0 rfl ?_
  refine zo_aload_n hC dX0_copyFrom_57 rfl 1 rfl ?_
  refine zo_getI hC fk0_60 (atG hg1) dX0_copyFrom_58 ?_
  refine zo_putI hC fk0_60 ff0_7 (atG hg) dX0_copyFrom_61 ?_
  refine zo_topI (fun I_8 => ?_)
  refine zo_aload_n hC dX0_copyFrom_64 rfl 1 rfl ?_
  refine zo_getR hC (r := (g1 + 1)) fk0_9 (by decide) (grG8 hg1) (atG hg1) dX0_copyFrom_65 ?_
  refine zo_iconst (v := 0) hC (by decide) dX0_copyFrom_68 ?_
  refine zo_aload_n hC dX0_copyFrom_69 rfl 0 rfl ?_
  refine zo_getR hC (r := (g + 1)) fk0_9 (by decide) (grG8 hg) (atG hg) dX0_copyFrom_70 ?_
  refine zo_iconst (v := 0) hC (by decide) dX0_copyFrom_73 ?_
  refine zo_bipush (v := 54) hC (by decide) dX0_copyFrom_74 ?_
  refine zo_copyi hC mlX0_32 na_copy st_copy in_Sys (arG1 hg1) (arG1 hg) (by decide) (by decide) (by decide) (by decide) (by decide) (Nat.le_of_ble_eq_true rfl) dX0_copyFrom_76 ?_
  refine zo_topI (fun I_9 => ?_)
  refine zo_aload_n hC dX0_copyFrom_79 rfl 1 rfl ?_
  refine zo_getR hC (r := (g1 + 2)) fk0_15 (by decide) (grG9 hg1) (atG hg1) dX0_copyFrom_80 ?_
  refine zo_iconst (v := 0) hC (by decide) dX0_copyFrom_83 ?_
  refine zo_aload_n hC dX0_copyFrom_84 rfl 0 rfl ?_
  refine zo_getR hC (r := (g + 2)) fk0_15 (by decide) (grG9 hg) (atG hg) dX0_copyFrom_85 ?_
  refine zo_iconst (v := 0) hC (by decide) dX0_copyFrom_88 ?_
  refine zo_iconst (v := 5) hC (by decide) dX0_copyFrom_89 ?_
  refine zo_copyi hC mlX0_32 na_copy st_copy in_Sys (arG2 hg1) (arG2 hg) (by decide) (by decide) (by decide) (by decide) (by decide) (Nat.le_of_ble_eq_true rfl) dX0_copyFrom_90 ?_
  refine zo_topI (fun I_10 => ?_)
  refine zo_aload_n hC dX0_copyFrom_93 rfl 1 rfl ?_
  refine zo_getR hC (r := (g1 + 3)) fk0_18 (by decide) (grG10 hg1) (atG hg1) dX0_copyFrom_94 ?_
  refine zo_iconst (v := 0) hC (by decide) dX0_copyFrom_97 ?_
  refine zo_aload_n hC dX0_copyFrom_98 rfl 0 rfl ?_
  refine zo_getR hC (r := (g + 3)) fk0_18 (by decide) (grG10 hg) (atG hg) dX0_copyFrom_99 ?_
  refine zo_iconst (v := 0) hC (by decide) dX0_copyFrom_102 ?_
  refine zo_bipush (v := 9) hC (by decide) dX0_copyFrom_103 ?_
  refine zo_copyi hC mlX0_32 na_copy st_copy in_Sys (arG3 hg1) (arG3 hg) (by decide) (by decide) (by decide) (by decide) (by decide) (Nat.le_of_ble_eq_true rfl) dX0_copyFrom_105 ?_
  refine zo_topI (fun I_11 => ?_)
  refine zo_aload_n hC dX0_copyFrom_108 rfl 1 rfl ?_
  refine zo_getR hC (r := (g1 + 4)) fk0_21 (by decide) (grG11 hg1) (atG hg1) dX0_copyFrom_109 ?_
  refine zo_iconst (v := 0) hC (by decide) dX0_copyFrom_112 ?_
  refine zo_aload_n hC dX0_copyFrom_113 rfl 0 rfl ?_
  refine zo_getR hC (r := (g + 4)) fk0_21 (by decide) (grG11 hg) (atG hg) dX0_copyFrom_114 ?_
  refine zo_iconst (v := 0) hC (by decide) dX0_copyFrom_117 ?_
  refine zo_sipush (v := 240) hC (by decide) dX0_copyFrom_118 ?_
  refine zo_copyi hC mlX0_32 na_copy st_copy in_Sys (arG4 hg1) (arG4 hg) (by decide) (by decide) (by decide) (by decide) (by decide) (Nat.le_of_ble_eq_true rfl) dX0_copyFrom_121 ?_
  refine zo_topI (fun I_12 => ?_)
  exact zo_vret hC rfl dX0_copyFrom_124

theorem T_X0_copyFrom (g : Nat) (hg : e_isG g) (g1 : Nat) (hg1 : e_isG g1) (I : e_I) (L : e_L) (p : e_I) (hp : f_X0_copyFrom g g1 I = some p) : Mt yX0_copyFrom cX0_copyFrom 2 none 0 gN [.ref g, .ref g1] I L ((ph_vI L) p) := zo_enter hp (by decide) (Nat.le_of_ble_eq_true rfl) (fun X hC => Zf_X0_copyFrom hC g hg g1 hg1 I L)
def f_X0_note_22 (g : Nat) (v1 : Int32) (v2 : Int32) (v3 : Int32) (s0 : Int32) (I : e_I) : Option (e_I) :=
  e_let (e_ui I g 7 s0) (fun (I_1 : e_I) =>
  e_let (e_ui I_1 g 6 (e_min ((I_1 g 6) + 1) 40)) (fun (I_2 : e_I) =>
  e_let ((I_2 g 7) * 6) (fun (x_3 : Int32) =>
  e_as (e_ix (x_3 + 0) 240 = true) (
  e_let (e_ui I_2 (g + 4) (x_3 + 0).toNatClampNeg (I_2 g 4)) (fun (I_5 : e_I) =>
  e_as (e_ix (x_3 + 1) 240 = true) (
  e_let (e_ui I_5 (g + 4) (x_3 + 1).toNatClampNeg v1) (fun (I_7 : e_I) =>
  e_as (e_ix (x_3 + 2) 240 = true) (
  e_let (e_ui I_7 (g + 4) (x_3 + 2).toNatClampNeg v2) (fun (I_9 : e_I) =>
  e_as (e_ix (x_3 + 3) 240 = true) (
  e_let (e_ui I_9 (g + 4) (x_3 + 3).toNatClampNeg (I_9 g 1)) (fun (I_11 : e_I) =>
  e_as (e_ix (x_3 + 4) 240 = true) (
  e_let (e_ui I_11 (g + 4) (x_3 + 4).toNatClampNeg (I_11 g 2)) (fun (I_13 : e_I) =>
  e_as (e_ix (x_3 + 5) 240 = true) (
  e_let (e_ui I_13 (g + 4) (x_3 + 5).toNatClampNeg v3) (fun (I_15 : e_I) =>
  some I_15)))))))))))))))
set_option maxRecDepth 100000 in
set_option maxHeartbeats 4000000 in
theorem Zf_X0_note_22 {X : e_X} (hC : e_C X cX0_note RX0 5 none 0 gN) (g : Nat) (hg : e_isG g) (L : e_L) (v1 : Int32) (v2 : Int32) (v3 : Int32) (s0 : Int32) (I : e_I) : Zo X (ph_vI L) (f_X0_note_22 g v1 v2 v3 s0 I) 22 [(0, .ref g), (1, .int v1), (2, .int v2), (3, .int v3)] [.int s0, .ref g] I L := by
  unfold f_X0_note_22
  refine zo_putI hC fk0_60 ff0_7 (atG hg) dX0_note_22 ?_
  refine zo_topI (fun I_1 => ?_)
  refine zo_aload_n hC dX0_note_25 rfl 0 rfl ?_
  refine zo_aload_n hC dX0_note_26 rfl 0 rfl ?_
  refine zo_getI hC fk0_57 (atG hg) dX0_note_27 ?_
  refine zo_iconst (v := 1) hC (by decide) dX0_note_30 ?_
  refine zo_iadd hC dX0_note_31 ?_
  refine zo_bipush (v := 40) hC (by decide) dX0_note_32 ?_
  refine zo_mmin_ hC mlX0_88 st_mmin in_Math cd_mmin (Nat.le_of_ble_eq_true rfl) dX0_note_34 ?_
  refine zo_putI hC fk0_57 ff0_6 (atG hg) dX0_note_37 ?_
  refine zo_topI (fun I_2 => ?_)
  refine zo_aload_n hC dX0_note_40 rfl 0 rfl ?_
  refine zo_getI hC fk0_60 (atG hg) dX0_note_41 ?_
  refine zo_bipush (v := 6) hC (by decide) dX0_note_44 ?_
  refine zo_imul hC dX0_note_46 ?_
  refine zo_topi (fun x_3 => ?_)
  refine zo_istore (lv' := [(4, .int x_3), (0, .ref g), (1, .int v1), (2, .int v2), (3, .int v3)]) hC dX0_note_47 (by decide) rfl ?_
  refine zo_aload_n hC dX0_note_49 rfl 1 rfl ?_
  refine zo_getR hC (r := (g + 4)) fk0_21 (by decide) (grG11 hg) (atG hg) dX0_note_50 ?_
  refine zo_iload hC dX0_note_53 0 rfl ?_
  refine zo_iconst (v := 0) hC (by decide) dX0_note_55 ?_
  refine zo_iadd hC dX0_note_56 ?_
  refine zo_aload_n hC dX0_note_57 rfl 1 rfl ?_
  refine zo_getI hC fk0_51 (atG hg) dX0_note_58 ?_
  refine zo_as (fun h_4 => ?_)
  refine zo_iast hC (arG4 hg) (e_ix_vp h_4) dX0_note_61 ?_
  refine zo_topI (fun I_5 => ?_)
  refine zo_aload_n hC dX0_note_62 rfl 1 rfl ?_
  refine zo_getR hC (r := (g + 4)) fk0_21 (by decide) (grG11 hg) (atG hg) dX0_note_63 ?_
  refine zo_iload hC dX0_note_66 0 rfl ?_
  refine zo_iconst (v := 1) hC (by decide) dX0_note_68 ?_
  refine zo_iadd hC dX0_note_69 ?_
  refine zo_iload_n hC dX0_note_70 rfl 2 rfl ?_
  refine zo_as (fun h_6 => ?_)
  refine zo_iast hC (arG4 hg) (e_ix_vp h_6) dX0_note_71 ?_
  refine zo_topI (fun I_7 => ?_)
  refine zo_aload_n hC dX0_note_72 rfl 1 rfl ?_
  refine zo_getR hC (r := (g + 4)) fk0_21 (by decide) (grG11 hg) (atG hg) dX0_note_73 ?_
  refine zo_iload hC dX0_note_76 0 rfl ?_
  refine zo_iconst (v := 2) hC (by decide) dX0_note_78 ?_
  refine zo_iadd hC dX0_note_79 ?_
  refine zo_iload_n hC dX0_note_80 rfl 3 rfl ?_
  refine zo_as (fun h_8 => ?_)
  refine zo_iast hC (arG4 hg) (e_ix_vp h_8) dX0_note_81 ?_
  refine zo_topI (fun I_9 => ?_)
  refine zo_aload_n hC dX0_note_82 rfl 1 rfl ?_
  refine zo_getR hC (r := (g + 4)) fk0_21 (by decide) (grG11 hg) (atG hg) dX0_note_83 ?_
  refine zo_iload hC dX0_note_86 0 rfl ?_
  refine zo_iconst (v := 3) hC (by decide) dX0_note_88 ?_
  refine zo_iadd hC dX0_note_89 ?_
  refine zo_aload_n hC dX0_note_90 rfl 1 rfl ?_
  refine zo_getI hC fk0_42 (atG hg) dX0_note_91 ?_
  refine zo_as (fun h_10 => ?_)
  refine zo_iast hC (arG4 hg) (e_ix_vp h_10) dX0_note_94 ?_
  refine zo_topI (fun I_11 => ?_)
  refine zo_aload_n hC dX0_note_95 rfl 1 rfl ?_
  refine zo_getR hC (r := (g + 4)) fk0_21 (by decide) (grG11 hg) (atG hg) dX0_note_96 ?_
  refine zo_iload hC dX0_note_99 0 rfl ?_
  refine zo_iconst (v := 4) hC (by decide) dX0_note_101 ?_
  refine zo_iadd hC dX0_note_102 ?_
  refine zo_aload_n hC dX0_note_103 rfl 1 rfl ?_
  refine zo_getI hC fk0_45 (atG hg) dX0_note_104 ?_
  refine zo_as (fun h_12 => ?_)
  refine zo_iast hC (arG4 hg) (e_ix_vp h_12) dX0_note_107 ?_
  refine zo_topI (fun I_13 => ?_)
  refine zo_aload_n hC dX0_note_108 rfl 1 rfl ?_
  refine zo_getR hC (r := (g + 4)) fk0_21 (by decide) (grG11 hg) (atG hg) dX0_note_109 ?_
  refine zo_iload hC dX0_note_112 0 rfl ?_
  refine zo_iconst (v := 5) hC (by decide) dX0_note_114 ?_
  refine zo_iadd hC dX0_note_115 ?_
  refine zo_iload_n hC dX0_note_116 rfl 4 rfl ?_
  refine zo_as (fun h_14 => ?_)
  refine zo_iast hC (arG4 hg) (e_ix_vp h_14) dX0_note_117 ?_
  refine zo_topI (fun I_15 => ?_)
  exact zo_vret hC rfl dX0_note_118

def f_X0_note (g : Nat) (v1 : Int32) (v2 : Int32) (v3 : Int32) (I : e_I) : Option (e_I) :=
  if ((I g 7) + 1) ≥ 40 then (
    f_X0_note_22 g v1 v2 v3 0 I)
  else (
    f_X0_note_22 g v1 v2 v3 ((I g 7) + 1) I)
set_option maxRecDepth 100000 in
set_option maxHeartbeats 4000000 in
theorem Zf_X0_note {X : e_X} (hC : e_C X cX0_note RX0 5 none 0 gN) (g : Nat) (hg : e_isG g) (v1 : Int32) (v2 : Int32) (v3 : Int32) (I : e_I) (L : e_L) : Zo X (ph_vI L) (f_X0_note g v1 v2 v3 I) 0 [(0, .ref g), (1, .int v1), (2, .int v2), (3, .int v3)] [] I L := by
  unfold f_X0_note
  refine zo_aload_n hC dX0_note_0 rfl 0 rfl ?_
  refine zo_aload_n hC dX0_note_1 rfl 0 rfl ?_
  refine zo_getI hC fk0_60 (atG hg) dX0_note_2 ?_
  refine zo_iconst (v := 1) hC (by decide) dX0_note_5 ?_
  refine zo_iadd hC dX0_note_6 ?_
  refine zo_bipush (v := 40) hC (by decide) dX0_note_7 ?_
  refine zo_icmp_ge (tgt := 21) hC dX0_note_9 (by decide) (fun c_1 => ?_) (fun c_1 => ?_)
  · refine zo_iconst (v := 0) hC (by decide) dX0_note_21 ?_
    exact Zf_X0_note_22 hC g hg L v1 v2 v3 0 I
  · refine zo_aload_n hC dX0_note_12 rfl 0 rfl ?_
    refine zo_getI hC fk0_60 (atG hg) dX0_note_13 ?_
    refine zo_iconst (v := 1) hC (by decide) dX0_note_16 ?_
    refine zo_iadd hC dX0_note_17 ?_
    refine zo_goto (tgt := 22) hC dX0_note_18 (by decide) ?_
    exact Zf_X0_note_22 hC g hg L v1 v2 v3 ((I g 7) + 1) I

theorem T_X0_note (g : Nat) (hg : e_isG g) (v1 : Int32) (v2 : Int32) (v3 : Int32) (I : e_I) (L : e_L) (p : e_I) (hp : f_X0_note g v1 v2 v3 I = some p) : Mt yX0_note cX0_note 5 none 0 gN [.ref g, .int v1, .int v2, .int v3] I L ((ph_vI L) p) := zo_enter hp (by decide) (Nat.le_of_ble_eq_true rfl) (fun X hC => Zf_X0_note hC g hg v1 v2 v3 I L)
def f_X0_happen_95 (g : Nat) (v3 : Int32) (s0 : Int32) (I : e_I) : Option (Int32 × e_I) :=
  e_let (e_ui I g 2 s0) (fun (I_1 : e_I) =>
  some (v3, I_1))
set_option maxRecDepth 100000 in
set_option maxHeartbeats 4000000 in
theorem Zf_X0_happen_95 {X : e_X} (hC : e_C X cX0_happen RX0 5 (some .int) 3 gN) (g : Nat) (hg : e_isG g) (L : e_L) (v3 : Int32) (s0 : Int32) (I : e_I) : Zo X (ph_iI L) (f_X0_happen_95 g v3 s0 I) 95 [(3, .int v3)] [.int s0, .ref g] I L := by
  unfold f_X0_happen_95
  refine zo_putI hC fk0_45 ff0_2 (atG hg) dX0_happen_95 ?_
  refine zo_topI (fun I_1 => ?_)
  refine zo_iload_n hC dX0_happen_98 rfl 0 rfl ?_
  exact zo_iret hC rfl dX0_happen_99

def f_X0_happen_81 (g : Nat) (v3 : Int32) (v4 : Int32) (I : e_I) : Option (Int32 × e_I) :=
  if v4 ≠ 24 then (
    f_X0_happen_95 g v3 v4 I)
  else (
    f_X0_happen_95 g v3 0 I)
set_option maxRecDepth 100000 in
set_option maxHeartbeats 4000000 in
theorem Zf_X0_happen_81 {X : e_X} (hC : e_C X cX0_happen RX0 5 (some .int) 3 gN) (g : Nat) (hg : e_isG g) (L : e_L) (v3 : Int32) (v4 : Int32) (I : e_I) : Zo X (ph_iI L) (f_X0_happen_81 g v3 v4 I) 81 [(0, .ref g), (3, .int v3), (4, .int v4)] [] I L := by
  unfold f_X0_happen_81
  refine zo_aload_n hC dX0_happen_81 rfl 0 rfl ?_
  refine zo_iload hC dX0_happen_82 2 rfl ?_
  refine zo_bipush (v := 24) hC (by decide) dX0_happen_84 ?_
  refine zo_icmp_ne (tgt := 93) hC dX0_happen_86 (by decide) (fun c_1 => ?_) (fun c_1 => ?_)
  · refine zo_iload hC dX0_happen_93 2 rfl ?_
    refine zo_sub [1] (lv' := [(3, .int v3)]) rfl ?_
    exact Zf_X0_happen_95 hC g hg L v3 v4 I
  · refine zo_iconst (v := 0) hC (by decide) dX0_happen_89 ?_
    refine zo_goto (tgt := 95) hC dX0_happen_90 (by decide) ?_
    refine zo_sub [1] (lv' := [(3, .int v3)]) rfl ?_
    exact Zf_X0_happen_95 hC g hg L v3 0 I

def f_X0_happen_64 (g : Nat) (v3 : Int32) (v4 : Int32) (I : e_I) : Option (Int32 × e_I) :=
  if v4 ≠ 24 then (
    f_X0_happen_81 g v3 v4 I)
  else (
    e_let (e_ui I g 1 ((I g 1) + 1)) (fun (I_2 : e_I) =>
    f_X0_happen_81 g v3 v4 I_2))
set_option maxRecDepth 100000 in
set_option maxHeartbeats 4000000 in
theorem Zf_X0_happen_64 {X : e_X} (hC : e_C X cX0_happen RX0 5 (some .int) 3 gN) (g : Nat) (hg : e_isG g) (L : e_L) (v3 : Int32) (v4 : Int32) (I : e_I) : Zo X (ph_iI L) (f_X0_happen_64 g v3 v4 I) 64 [(0, .ref g), (3, .int v3), (4, .int v4)] [] I L := by
  unfold f_X0_happen_64
  refine zo_iload hC dX0_happen_64 2 rfl ?_
  refine zo_bipush (v := 24) hC (by decide) dX0_happen_66 ?_
  refine zo_icmp_ne (tgt := 81) hC dX0_happen_68 (by decide) (fun c_1 => ?_) (fun c_1 => ?_)
  · exact Zf_X0_happen_81 hC g hg L v3 v4 I
  · refine zo_aload_n hC dX0_happen_71 rfl 0 rfl ?_
    refine zo_dup hC rfl dX0_happen_72 ?_
    refine zo_getI hC fk0_42 (atG hg) dX0_happen_73 ?_
    refine zo_iconst (v := 1) hC (by decide) dX0_happen_76 ?_
    refine zo_iadd hC dX0_happen_77 ?_
    refine zo_putI hC fk0_42 ff0_1 (atG hg) dX0_happen_78 ?_
    refine zo_topI (fun I_2 => ?_)
    exact Zf_X0_happen_81 hC g hg L v3 v4 I_2

def f_X0_happen (g : Nat) (v2 : Int32) (I : e_I) : Option (Int32 × e_I) :=
  e_b1 (f_X2_runsBy v2 (I g 2) I) (fun (r_1 : Int32) =>
  e_b1 (f_X2_behind v2 (I g 2) I) (fun (r_2 : Int32) =>
  e_b1 (f_X0_note g v2 r_1 r_2 I) (fun (I_3 : e_I) =>
  e_let (e_ui I_3 g 3 ((I_3 g 3) + r_1)) (fun (I_4 : e_I) =>
  if v2 > 6 then (
    f_X0_happen_64 g r_1 r_2 I_4)
  else (
    e_b1 (f_X0_batterBehind g 1 I_4) (fun (r_6 : Int32) =>
    e_let (e_ui I_4 g 4 r_6) (fun (I_7 : e_I) =>
    e_let (e_ui I_7 g 5 ((I_7 g 5) + 1)) (fun (I_8 : e_I) =>
    f_X0_happen_64 g r_1 r_2 I_8))))))))
set_option maxRecDepth 100000 in
set_option maxHeartbeats 4000000 in
theorem Zf_X0_happen {X : e_X} (hC : e_C X cX0_happen RX0 5 (some .int) 3 gN) (g : Nat) (hg : e_isG g) (v2 : Int32) (I : e_I) (L : e_L) : Zo X (ph_iI L) (f_X0_happen g v2 I) 0 [(0, .ref g), (1, .ref 12), (2, .int v2)] [] I L := by
  unfold f_X0_happen
  refine zo_aload_n hC dX0_happen_0 rfl 1 rfl ?_
  refine zo_iload_n hC dX0_happen_1 rfl 2 rfl ?_
  refine zo_aload_n hC dX0_happen_2 rfl 0 rfl ?_
  refine zo_getI hC fk0_45 (atG hg) dX0_happen_3 ?_
  refine zo_callV_i hC (ci := 2) [.int v2, .int (I g 2)] [] me_X2_runsBy mlX0_93 im_X2_runsBy se_X2_runsBy rfl (by decide) at_12 (fun p hp => T_X2_runsBy v2 (I g 2) I L p hp) (by decide) rfl (Nat.le_of_ble_eq_true rfl) dX0_happen_6 rfl (fun r_1 => ?_)
  refine zo_istore_n (lv' := [(3, .int r_1), (0, .ref g), (1, .ref 12), (2, .int v2)]) hC dX0_happen_9 rfl (by decide) rfl ?_
  refine zo_aload_n hC dX0_happen_10 rfl 2 rfl ?_
  refine zo_iload_n hC dX0_happen_11 rfl 3 rfl ?_
  refine zo_aload_n hC dX0_happen_12 rfl 1 rfl ?_
  refine zo_getI hC fk0_45 (atG hg) dX0_happen_13 ?_
  refine zo_callV_i hC (ci := 2) [.int v2, .int (I g 2)] [] me_X2_behind mlX0_98 im_X2_behind se_X2_behind rfl (by decide) at_12 (fun p hp => T_X2_behind v2 (I g 2) I L p hp) (by decide) rfl (Nat.le_of_ble_eq_true rfl) dX0_happen_16 rfl (fun r_2 => ?_)
  refine zo_istore (lv' := [(4, .int r_2), (3, .int r_1), (0, .ref g), (1, .ref 12), (2, .int v2)]) hC dX0_happen_19 (by decide) rfl ?_
  refine zo_aload_n hC dX0_happen_21 rfl 2 rfl ?_
  refine zo_iload_n hC dX0_happen_22 rfl 4 rfl ?_
  refine zo_iload_n hC dX0_happen_23 rfl 1 rfl ?_
  refine zo_iload hC dX0_happen_24 0 rfl ?_
  refine zo_callV_vI hC (ci := 0) [.int v2, .int r_1, .int r_2] [] me_X0_note mlX0_101 im_X0_note se_X0_note rfl (by decide) (atG hg) (fun p hp => T_X0_note g hg v2 r_1 r_2 I L p hp) (by decide) rfl (Nat.le_of_ble_eq_true rfl) dX0_happen_26 rfl (fun I_3 => ?_)
  refine zo_aload_n hC dX0_happen_29 rfl 2 rfl ?_
  refine zo_dup hC rfl dX0_happen_30 ?_
  refine zo_getI hC fk0_48 (atG hg) dX0_happen_31 ?_
  refine zo_iload_n hC dX0_happen_34 rfl 1 rfl ?_
  refine zo_iadd hC dX0_happen_35 ?_
  refine zo_putI hC fk0_48 ff0_3 (atG hg) dX0_happen_36 ?_
  refine zo_topI (fun I_4 => ?_)
  refine zo_iload_n hC dX0_happen_39 rfl 4 rfl ?_
  refine zo_bipush (v := 6) hC (by decide) dX0_happen_40 ?_
  refine zo_icmp_gt (tgt := 64) hC dX0_happen_42 (by decide) (fun c_5 => ?_) (fun c_5 => ?_)
  · refine zo_sub [2, 1, 0] (lv' := [(0, .ref g), (3, .int r_1), (4, .int r_2)]) rfl ?_
    exact Zf_X0_happen_64 hC g hg L r_1 r_2 I_4
  · refine zo_aload_n hC dX0_happen_45 rfl 2 rfl ?_
    refine zo_aload_n hC dX0_happen_46 rfl 2 rfl ?_
    refine zo_iconst (v := 1) hC (by decide) dX0_happen_47 ?_
    refine zo_callV_i hC (ci := 0) [.int 1] [.ref g] me_X0_batterBehind mlX0_105 im_X0_batterBehind se_X0_batterBehind rfl (by decide) (atG hg) (fun p hp => T_X0_batterBehind g hg 1 I_4 L p hp) (by decide) rfl (Nat.le_of_ble_eq_true rfl) dX0_happen_48 rfl (fun r_6 => ?_)
    refine zo_putI hC fk0_51 ff0_4 (atG hg) dX0_happen_51 ?_
    refine zo_topI (fun I_7 => ?_)
    refine zo_aload_n hC dX0_happen_54 rfl 2 rfl ?_
    refine zo_dup hC rfl dX0_happen_55 ?_
    refine zo_getI hC fk0_54 (atG hg) dX0_happen_56 ?_
    refine zo_iconst (v := 1) hC (by decide) dX0_happen_59 ?_
    refine zo_iadd hC dX0_happen_60 ?_
    refine zo_putI hC fk0_54 ff0_5 (atG hg) dX0_happen_61 ?_
    refine zo_topI (fun I_8 => ?_)
    refine zo_sub [2, 1, 0] (lv' := [(0, .ref g), (3, .int r_1), (4, .int r_2)]) rfl ?_
    exact Zf_X0_happen_64 hC g hg L r_1 r_2 I_8

theorem T_X0_happen (g : Nat) (hg : e_isG g) (v2 : Int32) (I : e_I) (L : e_L) (p : Int32 × e_I) (hp : f_X0_happen g v2 I = some p) : Mt yX0_happen cX0_happen 5 (some .int) 3 gN [.ref g, .ref 12, .int v2] I L ((ph_iI L) p) := zo_enter hp (by decide) (Nat.le_of_ble_eq_true rfl) (fun X hC => Zf_X0_happen hC g hg v2 I L)
def f_X5_drawTwentieth (L : e_L) : Option (Int32 × e_L) :=
  e_let (e_ul L 22 0 (e_rml ((16807 : Int64) * (L 22 0)) 2147483647)) (fun (L_1 : e_L) =>
  some ((e_rml (L_1 22 0) 20).toInt32, L_1))
set_option maxRecDepth 100000 in
set_option maxHeartbeats 4000000 in
theorem Zf_X5_drawTwentieth {X : e_X} (hC : e_C X cX5_drawTwentieth RX5 1 (some .int) 0 gN) (I : e_I) (L : e_L) : Zo X (ph_iL I) (f_X5_drawTwentieth L) 0 [(0, .ref 22)] [] I L := by
  unfold f_X5_drawTwentieth
  refine zo_aload_n hC dX5_drawTwentieth_0 rfl 0 rfl ?_
  refine zo_ldc2 (v := 16807) hC clX5_15 dX5_drawTwentieth_1 ?_
  refine zo_aload_n hC dX5_drawTwentieth_4 rfl 0 rfl ?_
  refine zo_getL hC fk5_9 at_22 dX5_drawTwentieth_5 ?_
  refine zo_lmul hC dX5_drawTwentieth_8 ?_
  refine zo_ldc2 (v := 2147483647) hC clX5_17 dX5_drawTwentieth_9 ?_
  refine zo_lrem_ hC (by decide) dX5_drawTwentieth_12 ?_
  refine zo_putL hC fk5_9 ff5_0 at_22 dX5_drawTwentieth_13 ?_
  refine zo_topL (fun L_1 => ?_)
  refine zo_aload_n hC dX5_drawTwentieth_16 rfl 0 rfl ?_
  refine zo_getL hC fk5_9 at_22 dX5_drawTwentieth_17 ?_
  refine zo_ldc2 (v := 20) hC clX5_19 dX5_drawTwentieth_20 ?_
  refine zo_lrem_ hC (by decide) dX5_drawTwentieth_23 ?_
  refine zo_l2i hC dX5_drawTwentieth_24 ?_
  exact zo_iret hC rfl dX5_drawTwentieth_25

theorem T_X5_drawTwentieth (I : e_I) (L : e_L) (p : Int32 × e_L) (hp : f_X5_drawTwentieth L = some p) : Mt yX5_drawTwentieth cX5_drawTwentieth 1 (some .int) 0 gN [.ref 22] I L ((ph_iL I) p) := zo_enter hp (by decide) (Nat.le_of_ble_eq_true rfl) (fun X hC => Zf_X5_drawTwentieth hC I L)
def f_X5_drawHit_7 (g1 : Nat) (I : e_I) (k40 : e_L → Option (Int32 × e_L)) (k32 : Int32 → e_L → Option (Int32 × e_L)) : Nat → Int32 → Int32 → e_L → Option (Int32 × e_L)
  | 0, _, _, _ => none
  | n + 1, v2, v3, L =>
    if v3 ≥ 5 then (
      k40 L)
    else (
      e_b1 (f_X0_tiredChance g1 (I g1 4) v3 (I g1 5) I) (fun (r_2 : Int32) =>
      e_let (v2 - r_2) (fun (x_3 : Int32) =>
      if x_3 ≥ 0 then (
        e_let (v3 + 1) (fun (x_5 : Int32) =>
        f_X5_drawHit_7 g1 I k40 k32 n x_3 x_5 L))
      else (
        k32 v3 L))))
set_option maxRecDepth 100000 in
set_option maxHeartbeats 4000000 in
theorem Zf_X5_drawHit_7 {X : e_X} (hC : e_C X cX5_drawHit RX5 4 (some .int) 3 gN) (g1 : Nat) (hg1 : e_isG g1) (I : e_I) (k40 : e_L → Option (Int32 × e_L)) (k32 : Int32 → e_L → Option (Int32 × e_L)) (hk40 : ∀ (L : e_L), Zo X (ph_iL I) (k40 L) 40 [] [] I L) (hk32 : ∀ (v3 : Int32) (L : e_L), Zo X (ph_iL I) (k32 v3 L) 32 [(3, .int v3)] [] I L) : ∀ (n : Nat) (v2 : Int32) (v3 : Int32) (L : e_L), Zo X (ph_iL I) (f_X5_drawHit_7 g1 I k40 k32 n v2 v3 L) 7 [(1, .ref g1), (2, .int v2), (3, .int v3)] [] I L := by
  intro n
  induction n with
  | zero => intro v2 v3 L p hp; cases hp
  | succ n ih =>
    intro v2 v3 L
    unfold f_X5_drawHit_7
    refine zo_iload_n hC dX5_drawHit_7 rfl 2 rfl ?_
    refine zo_iconst (v := 5) hC (by decide) dX5_drawHit_8 ?_
    refine zo_icmp_ge (tgt := 40) hC dX5_drawHit_9 (by decide) (fun c_1 => ?_) (fun c_1 => ?_)
    · refine zo_sub [] (lv' := []) rfl ?_
      exact hk40 L
    · refine zo_iload_n hC dX5_drawHit_12 rfl 1 rfl ?_
      refine zo_aload_n hC dX5_drawHit_13 rfl 0 rfl ?_
      refine zo_aload_n hC dX5_drawHit_14 rfl 0 rfl ?_
      refine zo_getI hC fk5_62 (atG hg1) dX5_drawHit_15 ?_
      refine zo_iload_n hC dX5_drawHit_18 rfl 2 rfl ?_
      refine zo_aload_n hC dX5_drawHit_19 rfl 0 rfl ?_
      refine zo_getI hC fk5_65 (atG hg1) dX5_drawHit_20 ?_
      refine zo_callV_i hC (ci := 0) [.int (I g1 4), .int v3, .int (I g1 5)] [.int v2] me_X0_tiredChance mlX5_68 im_X0_tiredChance se_X0_tiredChance rfl (by decide) (atG hg1) (fun p hp => T_X0_tiredChance g1 hg1 (I g1 4) v3 (I g1 5) I L p hp) (by decide) rfl (Nat.le_of_ble_eq_true rfl) dX5_drawHit_23 rfl (fun r_2 => ?_)
      refine zo_isub hC dX5_drawHit_26 ?_
      refine zo_topi (fun x_3 => ?_)
      refine zo_istore_n (lv' := [(2, .int x_3), (1, .ref g1), (3, .int v3)]) hC dX5_drawHit_27 rfl (by decide) rfl ?_
      refine zo_iload_n hC dX5_drawHit_28 rfl 0 rfl ?_
      refine zo_if_ge (tgt := 34) hC dX5_drawHit_29 (by decide) (fun c_4 => ?_) (fun c_4 => ?_)
      · refine zo_iinc hC (x := v3) (fun x_5 => [(3, .int x_5), (2, .int x_3), (1, .ref g1)]) dX5_drawHit_34 2 rfl (by rfl) (by decide) (fun _ => rfl) (fun x_5 => ?_)
        refine zo_goto (tgt := 7) hC dX5_drawHit_37 (by decide) ?_
        refine zo_sub [2, 1, 0] (lv' := [(1, .ref g1), (2, .int x_3), (3, .int x_5)]) rfl ?_
        exact ih x_3 x_5 L
      · refine zo_sub [2] (lv' := [(3, .int v3)]) rfl ?_
        exact hk32 v3 L

def f_X5_drawHit (g1 : Nat) (I : e_I) (L : e_L) : Option (Int32 × e_L) :=
  e_b2 (f_X5_drawTwentieth L) (fun (r_1 : Int32) (L_2 : e_L) =>
  f_X5_drawHit_7 g1 I (fun (L_3 : e_L) =>
    some (5, L_3)) (fun (v3_4 : Int32) (L_5 : e_L) =>
    some (v3_4, L_5)) e_FU r_1 0 L_2)
set_option maxRecDepth 100000 in
set_option maxHeartbeats 4000000 in
theorem Zf_X5_drawHit {X : e_X} (hC : e_C X cX5_drawHit RX5 4 (some .int) 3 gN) (g1 : Nat) (hg1 : e_isG g1) (I : e_I) (L : e_L) : Zo X (ph_iL I) (f_X5_drawHit g1 I L) 0 [(0, .ref 22), (1, .ref g1)] [] I L := by
  unfold f_X5_drawHit
  refine zo_aload_n hC dX5_drawHit_0 rfl 0 rfl ?_
  refine zo_callV_iL hC (ci := 5) [] [] me_X5_drawTwentieth mlX5_47 im_X5_drawTwentieth se_X5_drawTwentieth rfl (by decide) at_22 (fun p hp => T_X5_drawTwentieth I L p hp) (by decide) rfl (Nat.le_of_ble_eq_true rfl) dX5_drawHit_1 rfl (fun r_1 L_2 => ?_)
  refine zo_istore_n (lv' := [(2, .int r_1), (0, .ref 22), (1, .ref g1)]) hC dX5_drawHit_4 rfl (by decide) rfl ?_
  refine zo_iconst (v := 0) hC (by decide) dX5_drawHit_5 ?_
  refine zo_istore_n (lv' := [(3, .int 0), (2, .int r_1), (0, .ref 22), (1, .ref g1)]) hC dX5_drawHit_6 rfl (by decide) rfl ?_
  refine zo_sub [3, 1, 0] (lv' := [(1, .ref g1), (2, .int r_1), (3, .int 0)]) rfl ?_
  refine Zf_X5_drawHit_7 hC g1 hg1 I _ _ (fun L_3 => ?_) (fun v3_4 L_5 => ?_) e_FU r_1 0 L_2
  · refine zo_iconst (v := 5) hC (by decide) dX5_drawHit_40 ?_
    exact zo_iret hC rfl dX5_drawHit_41
  · refine zo_iload_n hC dX5_drawHit_32 rfl 0 rfl ?_
    exact zo_iret hC rfl dX5_drawHit_33

theorem T_X5_drawHit (g1 : Nat) (hg1 : e_isG g1) (I : e_I) (L : e_L) (p : Int32 × e_L) (hp : f_X5_drawHit g1 I L = some p) : Mt yX5_drawHit cX5_drawHit 4 (some .int) 3 gN [.ref 22, .ref g1] I L ((ph_iL I) p) := zo_enter hp (by decide) (Nat.le_of_ble_eq_true rfl) (fun X hC => Zf_X5_drawHit hC g1 hg1 I L)
def f_X5_playOne_110 (g2 : Nat) (s0 : Int32) (I : e_I) (L : e_L) : Option (Int32 × e_I × e_L) :=
  e_b2 (f_X0_happen g2 s0 I) (fun (r_1 : Int32) (I_2 : e_I) =>
  some (r_1, I_2, L))
set_option maxRecDepth 100000 in
set_option maxHeartbeats 4000000 in
theorem Zf_X5_playOne_110 {X : e_X} (hC : e_C X cX5_playOne RX5 6 (some .int) 6 gN) (g2 : Nat) (hg2 : e_isG g2) (s0 : Int32) (I : e_I) (L : e_L) : Zo X (ph_iIL) (f_X5_playOne_110 g2 s0 I L) 110 [] [.int s0, .ref 12, .ref g2] I L := by
  unfold f_X5_playOne_110
  refine zo_callV_iI hC (ci := 0) [.ref 12, .int s0] [] me_X0_happen mlX5_51 im_X0_happen se_X0_happen rfl (by decide) (atG hg2) (fun p hp => T_X0_happen g2 hg2 s0 I L p hp) (by decide) rfl (Nat.le_of_ble_eq_true rfl) dX5_playOne_110 rfl (fun r_1 I_2 => ?_)
  exact zo_iret hC rfl dX5_playOne_113

def f_X5_playOne_89 (g2 : Nat) (v4 : Int32) (I : e_I) (L : e_L) : Option (Int32 × e_I × e_L) :=
  if v4 ≠ 1 then (
    e_b2 (f_X5_drawHit g2 I L) (fun (r_2 : Int32) (L_3 : e_L) =>
    f_X5_playOne_110 g2 r_2 I L_3))
  else (
    f_X5_playOne_110 g2 6 I L)
set_option maxRecDepth 100000 in
set_option maxHeartbeats 4000000 in
theorem Zf_X5_playOne_89 {X : e_X} (hC : e_C X cX5_playOne RX5 6 (some .int) 6 gN) (g2 : Nat) (hg2 : e_isG g2) (v4 : Int32) (I : e_I) (L : e_L) : Zo X (ph_iIL) (f_X5_playOne_89 g2 v4 I L) 89 [(0, .ref 22), (1, .ref 11), (2, .ref g2), (4, .int v4)] [] I L := by
  unfold f_X5_playOne_89
  refine zo_aload_n hC dX5_playOne_89 rfl 2 rfl ?_
  refine zo_aload_n hC dX5_playOne_90 rfl 1 rfl ?_
  refine zo_getR hC (r := 12) fk5_43 (by decide) gr_11_0 at_11 dX5_playOne_91 ?_
  refine zo_iload hC dX5_playOne_94 3 rfl ?_
  refine zo_iconst (v := 1) hC (by decide) dX5_playOne_96 ?_
  refine zo_icmp_ne (tgt := 105) hC dX5_playOne_97 (by decide) (fun c_1 => ?_) (fun c_1 => ?_)
  · refine zo_aload_n hC dX5_playOne_105 rfl 0 rfl ?_
    refine zo_aload_n hC dX5_playOne_106 rfl 2 rfl ?_
    refine zo_callV_iL hC (ci := 5) [.ref g2] [.ref 12, .ref g2] me_X5_drawHit mlX5_58 im_X5_drawHit se_X5_drawHit rfl (by decide) at_22 (fun p hp => T_X5_drawHit g2 hg2 I L p hp) (by decide) rfl (Nat.le_of_ble_eq_true rfl) dX5_playOne_107 rfl (fun r_2 L_3 => ?_)
    refine zo_sub [] (lv' := []) rfl ?_
    exact Zf_X5_playOne_110 hC g2 hg2 r_2 I L_3
  · refine zo_bipush (v := 6) hC (by decide) dX5_playOne_100 ?_
    refine zo_goto (tgt := 110) hC dX5_playOne_102 (by decide) ?_
    refine zo_sub [] (lv' := []) rfl ?_
    exact Zf_X5_playOne_110 hC g2 hg2 6 I L

def f_X5_playOne_64 (g2 : Nat) (v5 : Int32) (s0 : Int32) (I : e_I) (L : e_L) : Option (Int32 × e_I × e_L) :=
  e_b2 (f_X0_happen g2 s0 I) (fun (r_1 : Int32) (I_2 : e_I) =>
  if (I_2 g2 1) = v5 then (
    e_b1 (f_X1_swingIn (I_2 g2 2) I_2 L) (fun (r_4 : Int32) =>
    f_X5_playOne_89 g2 r_4 I_2 L))
  else (
    some (0, I_2, L)))
set_option maxRecDepth 100000 in
set_option maxHeartbeats 4000000 in
theorem Zf_X5_playOne_64 {X : e_X} (hC : e_C X cX5_playOne RX5 6 (some .int) 6 gN) (g2 : Nat) (hg2 : e_isG g2) (v5 : Int32) (s0 : Int32) (I : e_I) (L : e_L) : Zo X (ph_iIL) (f_X5_playOne_64 g2 v5 s0 I L) 64 [(0, .ref 22), (1, .ref 11), (2, .ref g2), (5, .int v5)] [.int s0, .ref 12, .ref g2] I L := by
  unfold f_X5_playOne_64
  refine zo_callV_iI hC (ci := 0) [.ref 12, .int s0] [] me_X0_happen mlX5_51 im_X0_happen se_X0_happen rfl (by decide) (atG hg2) (fun p hp => T_X0_happen g2 hg2 s0 I L p hp) (by decide) rfl (Nat.le_of_ble_eq_true rfl) dX5_playOne_64 rfl (fun r_1 I_2 => ?_)
  refine zo_pop hC rfl dX5_playOne_67 ?_
  refine zo_aload_n hC dX5_playOne_68 rfl 2 rfl ?_
  refine zo_getI hC fk5_40 (atG hg2) dX5_playOne_69 ?_
  refine zo_iload hC dX5_playOne_72 3 rfl ?_
  refine zo_icmp_eq (tgt := 79) hC dX5_playOne_74 (by decide) (fun c_3 => ?_) (fun c_3 => ?_)
  · refine zo_aload_n hC dX5_playOne_79 rfl 1 rfl ?_
    refine zo_aload_n hC dX5_playOne_80 rfl 2 rfl ?_
    refine zo_getI hC fk5_33 (atG hg2) dX5_playOne_81 ?_
    refine zo_callV_i hC (ci := 1) [.int (I_2 g2 2)] [] me_X1_swingIn mlX5_55 im_X1_swingIn se_X1_swingIn rfl (by decide) at_11 (fun p hp => T_X1_swingIn (I_2 g2 2) I_2 L p hp) (by decide) rfl (Nat.le_of_ble_eq_true rfl) dX5_playOne_84 rfl (fun r_4 => ?_)
    refine zo_istore (lv' := [(4, .int r_4), (0, .ref 22), (1, .ref 11), (2, .ref g2), (5, .int v5)]) hC dX5_playOne_87 (by decide) rfl ?_
    refine zo_sub [1, 2, 3, 0] (lv' := [(0, .ref 22), (1, .ref 11), (2, .ref g2), (4, .int r_4)]) rfl ?_
    exact Zf_X5_playOne_89 hC g2 hg2 r_4 I_2 L
  · refine zo_iconst (v := 0) hC (by decide) dX5_playOne_77 ?_
    exact zo_iret hC rfl dX5_playOne_78

def f_X5_playOne_28 (g2 : Nat) (v4 : Int32) (I : e_I) (L : e_L) : Option (Int32 × e_I × e_L) :=
  if v4 ≠ 2 then (
    f_X5_playOne_89 g2 v4 I L)
  else (
    e_let (I g2 1) (fun (x_2 : Int32) =>
    e_b2 (f_X5_drawTwentieth L) (fun (r_3 : Int32) (L_4 : e_L) =>
    e_b1 (f_X0_ruled g2 3 I) (fun (r_5 : Int32) =>
    if r_3 ≥ r_5 then (
      f_X5_playOne_64 g2 x_2 8 I L_4)
    else (
      f_X5_playOne_64 g2 x_2 7 I L_4)))))
set_option maxRecDepth 100000 in
set_option maxHeartbeats 4000000 in
theorem Zf_X5_playOne_28 {X : e_X} (hC : e_C X cX5_playOne RX5 6 (some .int) 6 gN) (g2 : Nat) (hg2 : e_isG g2) (v4 : Int32) (I : e_I) (L : e_L) : Zo X (ph_iIL) (f_X5_playOne_28 g2 v4 I L) 28 [(0, .ref 22), (1, .ref 11), (2, .ref g2), (4, .int v4)] [] I L := by
  unfold f_X5_playOne_28
  refine zo_iload hC dX5_playOne_28 3 rfl ?_
  refine zo_iconst (v := 2) hC (by decide) dX5_playOne_30 ?_
  refine zo_icmp_ne (tgt := 89) hC dX5_playOne_31 (by decide) (fun c_1 => ?_) (fun c_1 => ?_)
  · exact Zf_X5_playOne_89 hC g2 hg2 v4 I L
  · refine zo_aload_n hC dX5_playOne_34 rfl 2 rfl ?_
    refine zo_getI hC fk5_40 (atG hg2) dX5_playOne_35 ?_
    refine zo_topi (fun x_2 => ?_)
    refine zo_istore (lv' := [(5, .int x_2), (0, .ref 22), (1, .ref 11), (2, .ref g2), (4, .int v4)]) hC dX5_playOne_38 (by decide) rfl ?_
    refine zo_aload_n hC dX5_playOne_40 rfl 3 rfl ?_
    refine zo_aload_n hC dX5_playOne_41 rfl 2 rfl ?_
    refine zo_getR hC (r := 12) fk5_43 (by decide) gr_11_0 at_11 dX5_playOne_42 ?_
    refine zo_aload_n hC dX5_playOne_45 rfl 1 rfl ?_
    refine zo_callV_iL hC (ci := 5) [] [.ref 12, .ref g2] me_X5_drawTwentieth mlX5_47 im_X5_drawTwentieth se_X5_drawTwentieth rfl (by decide) at_22 (fun p hp => T_X5_drawTwentieth I L p hp) (by decide) rfl (Nat.le_of_ble_eq_true rfl) dX5_playOne_46 rfl (fun r_3 L_4 => ?_)
    refine zo_aload_n hC dX5_playOne_49 rfl 3 rfl ?_
    refine zo_iconst (v := 3) hC (by decide) dX5_playOne_50 ?_
    refine zo_callV_i hC (ci := 0) [.int 3] [.int r_3, .ref 12, .ref g2] me_X0_ruled mlX5_21 im_X0_ruled se_X0_ruled rfl (by decide) (atG hg2) (fun p hp => T_X0_ruled g2 hg2 3 I L_4 p hp) (by decide) rfl (Nat.le_of_ble_eq_true rfl) dX5_playOne_51 rfl (fun r_5 => ?_)
    refine zo_icmp_ge (tgt := 62) hC dX5_playOne_54 (by decide) (fun c_6 => ?_) (fun c_6 => ?_)
    · refine zo_bipush (v := 8) hC (by decide) dX5_playOne_62 ?_
      refine zo_sub [1, 2, 3, 0] (lv' := [(0, .ref 22), (1, .ref 11), (2, .ref g2), (5, .int x_2)]) rfl ?_
      exact Zf_X5_playOne_64 hC g2 hg2 x_2 8 I L_4
    · refine zo_bipush (v := 7) hC (by decide) dX5_playOne_57 ?_
      refine zo_goto (tgt := 64) hC dX5_playOne_59 (by decide) ?_
      refine zo_sub [1, 2, 3, 0] (lv' := [(0, .ref 22), (1, .ref 11), (2, .ref g2), (5, .int x_2)]) rfl ?_
      exact Zf_X5_playOne_64 hC g2 hg2 x_2 7 I L_4

def f_X5_playOne (g2 : Nat) (v3 : Int32) (I : e_I) (L : e_L) : Option (Int32 × e_I × e_L) :=
  if v3 = 0 then (
    f_X5_playOne_28 g2 0 I L)
  else (
    e_b1 (f_X0_ruled g2 3 I) (fun (r_2 : Int32) =>
    e_b2 (f_X1_lookAhead g2 2 r_2 I L) (fun (I_3 : e_I) (L_4 : e_L) =>
    e_b1 (f_X1_choiceIn (I_3 g2 2) I_3 L_4) (fun (r_5 : Int32) =>
    f_X5_playOne_28 g2 r_5 I_3 L_4))))
set_option maxRecDepth 100000 in
set_option maxHeartbeats 4000000 in
theorem Zf_X5_playOne {X : e_X} (hC : e_C X cX5_playOne RX5 6 (some .int) 6 gN) (g2 : Nat) (hg2 : e_isG g2) (v3 : Int32) (I : e_I) (L : e_L) : Zo X (ph_iIL) (f_X5_playOne g2 v3 I L) 0 [(0, .ref 22), (1, .ref 11), (2, .ref g2), (3, .int v3)] [] I L := by
  unfold f_X5_playOne
  refine zo_iconst (v := 0) hC (by decide) dX5_playOne_0 ?_
  refine zo_istore (lv' := [(4, .int 0), (0, .ref 22), (1, .ref 11), (2, .ref g2), (3, .int v3)]) hC dX5_playOne_1 (by decide) rfl ?_
  refine zo_iload_n hC dX5_playOne_3 rfl 4 rfl ?_
  refine zo_if_eq (tgt := 28) hC dX5_playOne_4 (by decide) (fun c_1 => ?_) (fun c_1 => ?_)
  · refine zo_sub [1, 2, 3, 0] (lv' := [(0, .ref 22), (1, .ref 11), (2, .ref g2), (4, .int 0)]) rfl ?_
    exact Zf_X5_playOne_28 hC g2 hg2 0 I L
  · refine zo_aload_n hC dX5_playOne_7 rfl 2 rfl ?_
    refine zo_aload_n hC dX5_playOne_8 rfl 3 rfl ?_
    refine zo_iconst (v := 2) hC (by decide) dX5_playOne_9 ?_
    refine zo_aload_n hC dX5_playOne_10 rfl 3 rfl ?_
    refine zo_iconst (v := 3) hC (by decide) dX5_playOne_11 ?_
    refine zo_callV_i hC (ci := 0) [.int 3] [.int 2, .ref g2, .ref 11] me_X0_ruled mlX5_21 im_X0_ruled se_X0_ruled rfl (by decide) (atG hg2) (fun p hp => T_X0_ruled g2 hg2 3 I L p hp) (by decide) rfl (Nat.le_of_ble_eq_true rfl) dX5_playOne_12 rfl (fun r_2 => ?_)
    refine zo_callV_vIL hC (ci := 1) [.ref g2, .int 2, .int r_2] [] me_X1_lookAhead mlX5_27 im_X1_lookAhead se_X1_lookAhead rfl (by decide) at_11 (fun p hp => T_X1_lookAhead g2 hg2 2 r_2 I L p hp) (by decide) rfl (Nat.le_of_ble_eq_true rfl) dX5_playOne_15 rfl (fun I_3 L_4 => ?_)
    refine zo_aload_n hC dX5_playOne_18 rfl 2 rfl ?_
    refine zo_aload_n hC dX5_playOne_19 rfl 3 rfl ?_
    refine zo_getI hC fk5_33 (atG hg2) dX5_playOne_20 ?_
    refine zo_callV_i hC (ci := 1) [.int (I_3 g2 2)] [] me_X1_choiceIn mlX5_37 im_X1_choiceIn se_X1_choiceIn rfl (by decide) at_11 (fun p hp => T_X1_choiceIn (I_3 g2 2) I_3 L_4 p hp) (by decide) rfl (Nat.le_of_ble_eq_true rfl) dX5_playOne_23 rfl (fun r_5 => ?_)
    refine zo_istore (lv' := [(4, .int r_5), (0, .ref 22), (1, .ref 11), (2, .ref g2), (3, .int v3)]) hC dX5_playOne_26 (by decide) rfl ?_
    refine zo_sub [1, 2, 3, 0] (lv' := [(0, .ref 22), (1, .ref 11), (2, .ref g2), (4, .int r_5)]) rfl ?_
    exact Zf_X5_playOne_28 hC g2 hg2 r_5 I_3 L_4

theorem T_X5_playOne (g2 : Nat) (hg2 : e_isG g2) (v3 : Int32) (I : e_I) (L : e_L) (p : Int32 × e_I × e_L) (hp : f_X5_playOne g2 v3 I L = some p) : Mt yX5_playOne cX5_playOne 6 (some .int) 6 gN [.ref 22, .ref 11, .ref g2, .int v3] I L ((ph_iIL) p) := zo_enter hp (by decide) (Nat.le_of_ble_eq_true rfl) (fun X hC => Zf_X5_playOne hC g2 hg2 v3 I L)
def f_X5_seedWith (v1 : Int32) (L : e_L) : Option (e_L) :=
  e_let (e_ul L 22 0 v1.toInt64) (fun (L_1 : e_L) =>
  some L_1)
set_option maxRecDepth 100000 in
set_option maxHeartbeats 4000000 in
theorem Zf_X5_seedWith {X : e_X} (hC : e_C X cX5_seedWith RX5 2 none 0 gN) (v1 : Int32) (I : e_I) (L : e_L) : Zo X (ph_vL I) (f_X5_seedWith v1 L) 0 [(0, .ref 22), (1, .int v1)] [] I L := by
  unfold f_X5_seedWith
  refine zo_aload_n hC dX5_seedWith_0 rfl 0 rfl ?_
  refine zo_iload_n hC dX5_seedWith_1 rfl 1 rfl ?_
  refine zo_i2l hC dX5_seedWith_2 ?_
  refine zo_putL hC fk5_9 ff5_0 at_22 dX5_seedWith_3 ?_
  refine zo_topL (fun L_1 => ?_)
  exact zo_vret hC rfl dX5_seedWith_6

theorem T_X5_seedWith (v1 : Int32) (I : e_I) (L : e_L) (p : e_L) (hp : f_X5_seedWith v1 L = some p) : Mt yX5_seedWith cX5_seedWith 2 none 0 gN [.ref 22, .int v1] I L ((ph_vL I) p) := zo_enter hp (by decide) (Nat.le_of_ble_eq_true rfl) (fun X hC => Zf_X5_seedWith hC v1 I L)
def f_X7_innings_138 (v2 : Int32) (v3 : Int32) (v4 : Int32) (k63 : Int32 → Int32 → Int32 → e_I → e_L → Option (Int32 × e_I × e_L)) (k141 : Int32 → Int32 → e_I → e_L → Option (Int32 × e_I × e_L)) (v5 : Int32) (v6 : Int32) (v7 : Int32) (I : e_I) (L : e_L) : Option (Int32 × e_I × e_L) :=
  k63 v5 v6 v7 I L
set_option maxRecDepth 100000 in
set_option maxHeartbeats 4000000 in
theorem Zf_X7_innings_138 {X : e_X} (hC : e_C X cX7_innings RX7 9 (some .int) 7 gN) (v2 : Int32) (v3 : Int32) (v4 : Int32) (k63 : Int32 → Int32 → Int32 → e_I → e_L → Option (Int32 × e_I × e_L)) (k141 : Int32 → Int32 → e_I → e_L → Option (Int32 × e_I × e_L)) (hk63 : ∀ (v5 : Int32) (v6 : Int32) (v7 : Int32) (I : e_I) (L : e_L), Zo X (ph_iIL) (k63 v5 v6 v7 I L) 63 [(0, .ref 0), (2, .int v2), (3, .int v3), (4, .int v4), (5, .int v5), (6, .int v6), (7, .int v7)] [] I L) (hk141 : ∀ (v5 : Int32) (v6 : Int32) (I : e_I) (L : e_L), Zo X (ph_iIL) (k141 v5 v6 I L) 141 [(0, .ref 0), (4, .int v4), (5, .int v5), (6, .int v6)] [] I L) (v5 : Int32) (v6 : Int32) (v7 : Int32) (I : e_I) (L : e_L) : Zo X (ph_iIL) (f_X7_innings_138 v2 v3 v4 k63 k141 v5 v6 v7 I L) 138 [(0, .ref 0), (2, .int v2), (3, .int v3), (4, .int v4), (5, .int v5), (6, .int v6), (7, .int v7)] [] I L := by
  unfold f_X7_innings_138
  refine zo_goto (tgt := 63) hC dX7_innings_138 (by decide) ?_
  exact hk63 v5 v6 v7 I L

def f_X7_innings_63 (v2 : Int32) (v3 : Int32) (v4 : Int32) (k141 : Int32 → Int32 → e_I → e_L → Option (Int32 × e_I × e_L)) : Nat → Int32 → Int32 → Int32 → e_I → e_L → Option (Int32 × e_I × e_L)
  | 0, _, _, _, _, _ => none
  | n + 1, v5, v6, v7, I, L =>
    if v5 ≥ 100 then (
      k141 v5 v6 I L)
    else (
      if (I 28 1) > v2 then (
        k141 v5 v6 I L)
      else (
        e_let (I 28 1) (fun (x_3 : Int32) =>
        e_b3 (f_X5_playOne 28 v3 I L) (fun (r_4 : Int32) (I_5 : e_I) (L_6 : e_L) =>
        e_let (v7 + r_4) (fun (x_7 : Int32) =>
        e_let (v5 + 1) (fun (x_8 : Int32) =>
        e_let (e_max v6 x_7) (fun (x_9 : Int32) =>
        if (I_5 28 1) = x_3 then (
          f_X7_innings_138 v2 v3 v4 (fun v5 v6 v7 I L => f_X7_innings_63 v2 v3 v4 k141 n v5 v6 v7 I L) k141 x_8 x_9 x_7 I_5 L_6)
        else (
          f_X7_innings_138 v2 v3 v4 (fun v5 v6 v7 I L => f_X7_innings_63 v2 v3 v4 k141 n v5 v6 v7 I L) k141 x_8 x_9 0 I_5 L_6))))))))
set_option maxRecDepth 100000 in
set_option maxHeartbeats 4000000 in
theorem Zf_X7_innings_63 {X : e_X} (hC : e_C X cX7_innings RX7 9 (some .int) 7 gN) (v2 : Int32) (v3 : Int32) (v4 : Int32) (k141 : Int32 → Int32 → e_I → e_L → Option (Int32 × e_I × e_L)) (hk141 : ∀ (v5 : Int32) (v6 : Int32) (I : e_I) (L : e_L), Zo X (ph_iIL) (k141 v5 v6 I L) 141 [(0, .ref 0), (4, .int v4), (5, .int v5), (6, .int v6)] [] I L) : ∀ (n : Nat) (v5 : Int32) (v6 : Int32) (v7 : Int32) (I : e_I) (L : e_L), Zo X (ph_iIL) (f_X7_innings_63 v2 v3 v4 k141 n v5 v6 v7 I L) 63 [(0, .ref 0), (2, .int v2), (3, .int v3), (4, .int v4), (5, .int v5), (6, .int v6), (7, .int v7)] [] I L := by
  intro n
  induction n with
  | zero => intro v5 v6 v7 I L p hp; cases hp
  | succ n ih =>
    intro v5 v6 v7 I L
    unfold f_X7_innings_63
    refine zo_iload hC dX7_innings_63 4 rfl ?_
    refine zo_bipush (v := 100) hC (by decide) dX7_innings_65 ?_
    refine zo_icmp_ge (tgt := 141) hC dX7_innings_67 (by decide) (fun c_1 => ?_) (fun c_1 => ?_)
    · refine zo_sub [0, 3, 4, 5] (lv' := [(0, .ref 0), (4, .int v4), (5, .int v5), (6, .int v6)]) rfl ?_
      exact hk141 v5 v6 I L
    · refine zo_aload_n hC dX7_innings_70 rfl 0 rfl ?_
      refine zo_getR hC (r := 28) fk7_27 (by decide) gr_0_3 at_0 dX7_innings_71 ?_
      refine zo_getI hC fk7_114 at_28 dX7_innings_74 ?_
      refine zo_iload_n hC dX7_innings_77 rfl 1 rfl ?_
      refine zo_icmp_gt (tgt := 141) hC dX7_innings_78 (by decide) (fun c_2 => ?_) (fun c_2 => ?_)
      · refine zo_sub [0, 3, 4, 5] (lv' := [(0, .ref 0), (4, .int v4), (5, .int v5), (6, .int v6)]) rfl ?_
        exact hk141 v5 v6 I L
      · refine zo_aload_n hC dX7_innings_81 rfl 0 rfl ?_
        refine zo_getR hC (r := 28) fk7_27 (by decide) gr_0_3 at_0 dX7_innings_82 ?_
        refine zo_getI hC fk7_114 at_28 dX7_innings_85 ?_
        refine zo_topi (fun x_3 => ?_)
        refine zo_istore (lv' := [(8, .int x_3), (0, .ref 0), (2, .int v2), (3, .int v3), (4, .int v4), (5, .int v5), (6, .int v6), (7, .int v7)]) hC dX7_innings_88 (by decide) rfl ?_
        refine zo_iload hC dX7_innings_90 7 rfl ?_
        refine zo_aload_n hC dX7_innings_92 rfl 1 rfl ?_
        refine zo_getR hC (r := 22) fk7_54 (by decide) gr_0_7 at_0 dX7_innings_93 ?_
        refine zo_aload_n hC dX7_innings_96 rfl 1 rfl ?_
        refine zo_getR hC (r := 11) fk7_40 (by decide) gr_0_5 at_0 dX7_innings_97 ?_
        refine zo_aload_n hC dX7_innings_100 rfl 1 rfl ?_
        refine zo_getR hC (r := 28) fk7_27 (by decide) gr_0_3 at_0 dX7_innings_101 ?_
        refine zo_iload_n hC dX7_innings_104 rfl 3 rfl ?_
        refine zo_callV_iIL hC (ci := 5) [.ref 11, .ref 28, .int v3] [.int v7] me_X5_playOne mlX7_302 im_X5_playOne se_X5_playOne rfl (by decide) at_22 (fun p hp => T_X5_playOne 28 isG_28 v3 I L p hp) (by decide) rfl (Nat.le_of_ble_eq_true rfl) dX7_innings_105 rfl (fun r_4 I_5 L_6 => ?_)
        refine zo_iadd hC dX7_innings_108 ?_
        refine zo_topi (fun x_7 => ?_)
        refine zo_istore (lv' := [(7, .int x_7), (8, .int x_3), (0, .ref 0), (2, .int v2), (3, .int v3), (4, .int v4), (5, .int v5), (6, .int v6)]) hC dX7_innings_109 (by decide) rfl ?_
        refine zo_iinc hC (x := v5) (fun x_8 => [(5, .int x_8), (7, .int x_7), (8, .int x_3), (0, .ref 0), (2, .int v2), (3, .int v3), (4, .int v4), (6, .int v6)]) dX7_innings_111 6 rfl (by rfl) (by decide) (fun _ => rfl) (fun x_8 => ?_)
        refine zo_iload hC dX7_innings_114 7 rfl ?_
        refine zo_iload hC dX7_innings_116 1 rfl ?_
        refine zo_mmax_ hC mlX7_306 st_mmax in_Math cd_mmax (Nat.le_of_ble_eq_true rfl) dX7_innings_118 ?_
        refine zo_topi (fun x_9 => ?_)
        refine zo_istore (lv' := [(6, .int x_9), (5, .int x_8), (7, .int x_7), (8, .int x_3), (0, .ref 0), (2, .int v2), (3, .int v3), (4, .int v4)]) hC dX7_innings_121 (by decide) rfl ?_
        refine zo_aload_n hC dX7_innings_123 rfl 4 rfl ?_
        refine zo_getR hC (r := 28) fk7_27 (by decide) gr_0_3 at_0 dX7_innings_124 ?_
        refine zo_getI hC fk7_114 at_28 dX7_innings_127 ?_
        refine zo_iload hC dX7_innings_130 3 rfl ?_
        refine zo_icmp_eq (tgt := 138) hC dX7_innings_132 (by decide) (fun c_10 => ?_) (fun c_10 => ?_)
        · refine zo_sub [4, 5, 6, 7, 1, 0, 2] (lv' := [(0, .ref 0), (2, .int v2), (3, .int v3), (4, .int v4), (5, .int x_8), (6, .int x_9), (7, .int x_7)]) rfl ?_
          exact Zf_X7_innings_138 hC v2 v3 v4 (fun v5 v6 v7 I L => f_X7_innings_63 v2 v3 v4 k141 n v5 v6 v7 I L) k141 (fun v5 v6 v7 I L => ih v5 v6 v7 I L) hk141 x_8 x_9 x_7 I_5 L_6
        · refine zo_iconst (v := 0) hC (by decide) dX7_innings_135 ?_
          refine zo_istore (lv' := [(7, .int 0), (6, .int x_9), (5, .int x_8), (8, .int x_3), (0, .ref 0), (2, .int v2), (3, .int v3), (4, .int v4)]) hC dX7_innings_136 (by decide) rfl ?_
          refine zo_sub [4, 5, 6, 7, 2, 1, 0] (lv' := [(0, .ref 0), (2, .int v2), (3, .int v3), (4, .int v4), (5, .int x_8), (6, .int x_9), (7, .int 0)]) rfl ?_
          exact Zf_X7_innings_138 hC v2 v3 v4 (fun v5 v6 v7 I L => f_X7_innings_63 v2 v3 v4 k141 n v5 v6 v7 I L) k141 (fun v5 v6 v7 I L => ih v5 v6 v7 I L) hk141 x_8 x_9 0 I_5 L_6

def f_X7_innings_169 (s0 : Int32) (I : e_I) (L : e_L) : Option (Int32 × e_I × e_L) :=
  some (s0, I, L)
set_option maxRecDepth 100000 in
set_option maxHeartbeats 4000000 in
theorem Zf_X7_innings_169 {X : e_X} (hC : e_C X cX7_innings RX7 9 (some .int) 7 gN) (s0 : Int32) (I : e_I) (L : e_L) : Zo X (ph_iIL) (f_X7_innings_169 s0 I L) 169 [] [.int s0] I L := by
  unfold f_X7_innings_169
  exact zo_iret hC rfl dX7_innings_169

def f_X7_innings (v1 : Int32) (v2 : Int32) (v3 : Int32) (v4 : Int32) (I : e_I) (L : e_L) : Option (Int32 × e_I × e_L) :=
  e_b1 (f_X7_within v4 0 2) (fun (r_1 : Int32) =>
  e_b1 (f_X7_within v2 1 9) (fun (r_2 : Int32) =>
  e_b1 (f_X7_troubleOfPlay r_1 v1 r_2 I) (fun (r_3 : Int32) =>
  e_b2 (f_X7_refused r_3 I) (fun (r_4 : Int32) (I_5 : e_I) =>
  if r_4 = 0 then (
    e_b1 (f_X0_copyFrom 28 23 I_5) (fun (I_7 : e_I) =>
    e_b1 (f_X0_beginAnew 28 I_7) (fun (I_8 : e_I) =>
    e_b1 (f_X5_seedWith v1 L) (fun (L_9 : e_L) =>
    f_X7_innings_63 v2 v3 v4 (fun (v5_10 : Int32) (v6_11 : Int32) (I_12 : e_I) (L_13 : e_L) =>
      if v4 ≠ 0 then (
        if v4 ≠ 1 then (
          f_X7_innings_169 v6_11 I_12 L_13)
        else (
          f_X7_innings_169 v5_10 I_12 L_13))
      else (
        f_X7_innings_169 (I_12 28 3) I_12 L_13)) e_FU 0 0 0 I_8 L_9))))
  else (
    some ((-1), I_5, L))))))
set_option maxRecDepth 100000 in
set_option maxHeartbeats 4000000 in
theorem Zf_X7_innings {X : e_X} (hC : e_C X cX7_innings RX7 9 (some .int) 7 gN) (v1 : Int32) (v2 : Int32) (v3 : Int32) (v4 : Int32) (I : e_I) (L : e_L) : Zo X (ph_iIL) (f_X7_innings v1 v2 v3 v4 I L) 0 [(0, .ref 0), (1, .int v1), (2, .int v2), (3, .int v3), (4, .int v4)] [] I L := by
  unfold f_X7_innings
  refine zo_aload_n hC dX7_innings_0 rfl 0 rfl ?_
  refine zo_aload_n hC dX7_innings_1 rfl 0 rfl ?_
  refine zo_iload hC dX7_innings_2 4 rfl ?_
  refine zo_iconst (v := 0) hC (by decide) dX7_innings_4 ?_
  refine zo_iconst (v := 2) hC (by decide) dX7_innings_5 ?_
  refine zo_callS_i hC [.int v4, .int 0, .int 2] [.ref 0, .ref 0] me_X7_within mlX7_66 sm_X7_within (fun p hp => T_X7_within v4 0 2 I L p hp) (by decide) rfl (Nat.le_of_ble_eq_true rfl) dX7_innings_6 rfl (fun r_1 => ?_)
  refine zo_iload_n hC dX7_innings_9 rfl 1 rfl ?_
  refine zo_iload_n hC dX7_innings_10 rfl 2 rfl ?_
  refine zo_iconst (v := 1) hC (by decide) dX7_innings_11 ?_
  refine zo_bipush (v := 9) hC (by decide) dX7_innings_12 ?_
  refine zo_callS_i hC [.int v2, .int 1, .int 9] [.int v1, .int r_1, .ref 0, .ref 0] me_X7_within mlX7_66 sm_X7_within (fun p hp => T_X7_within v2 1 9 I L p hp) (by decide) rfl (Nat.le_of_ble_eq_true rfl) dX7_innings_14 rfl (fun r_2 => ?_)
  refine zo_callV_i hC (ci := 7) [.int r_1, .int v1, .int r_2] [.ref 0] me_X7_troubleOfPlay mlX7_288 im_X7_troubleOfPlay se_X7_troubleOfPlay rfl (by decide) at_0 (fun p hp => T_X7_troubleOfPlay r_1 v1 r_2 I L p hp) (by decide) rfl (Nat.le_of_ble_eq_true rfl) dX7_innings_17 rfl (fun r_3 => ?_)
  refine zo_callV_iI hC (ci := 7) [.int r_3] [] me_X7_refused mlX7_70 im_X7_refused se_X7_refused rfl (by decide) at_0 (fun p hp => T_X7_refused r_3 I L p hp) (by decide) rfl (Nat.le_of_ble_eq_true rfl) dX7_innings_20 rfl (fun r_4 I_5 => ?_)
  refine zo_if_eq (tgt := 28) hC dX7_innings_23 (by decide) (fun c_6 => ?_) (fun c_6 => ?_)
  · refine zo_aload_n hC dX7_innings_28 rfl 0 rfl ?_
    refine zo_getR hC (r := 28) fk7_27 (by decide) gr_0_3 at_0 dX7_innings_29 ?_
    refine zo_aload_n hC dX7_innings_32 rfl 0 rfl ?_
    refine zo_getR hC (r := 23) fk7_23 (by decide) gr_0_2 at_0 dX7_innings_33 ?_
    refine zo_callV_vI hC (ci := 0) [.ref 23] [] me_X0_copyFrom mlX7_292 im_X0_copyFrom se_X0_copyFrom rfl (by decide) at_28 (fun p hp => T_X0_copyFrom 28 isG_28 23 isG_23 I_5 L p hp) (by decide) rfl (Nat.le_of_ble_eq_true rfl) dX7_innings_36 rfl (fun I_7 => ?_)
    refine zo_aload_n hC dX7_innings_39 rfl 0 rfl ?_
    refine zo_getR hC (r := 28) fk7_27 (by decide) gr_0_3 at_0 dX7_innings_40 ?_
    refine zo_callV_vI hC (ci := 0) [] [] me_X0_beginAnew mlX7_296 im_X0_beginAnew se_X0_beginAnew rfl (by decide) at_28 (fun p hp => T_X0_beginAnew 28 isG_28 I_7 L p hp) (by decide) rfl (Nat.le_of_ble_eq_true rfl) dX7_innings_43 rfl (fun I_8 => ?_)
    refine zo_aload_n hC dX7_innings_46 rfl 0 rfl ?_
    refine zo_getR hC (r := 22) fk7_54 (by decide) gr_0_7 at_0 dX7_innings_47 ?_
    refine zo_iload_n hC dX7_innings_50 rfl 1 rfl ?_
    refine zo_callV_vL hC (ci := 5) [.int v1] [] me_X5_seedWith mlX7_299 im_X5_seedWith se_X5_seedWith rfl (by decide) at_22 (fun p hp => T_X5_seedWith v1 I_8 L p hp) (by decide) rfl (Nat.le_of_ble_eq_true rfl) dX7_innings_51 rfl (fun L_9 => ?_)
    refine zo_iconst (v := 0) hC (by decide) dX7_innings_54 ?_
    refine zo_istore (lv' := [(5, .int 0), (0, .ref 0), (1, .int v1), (2, .int v2), (3, .int v3), (4, .int v4)]) hC dX7_innings_55 (by decide) rfl ?_
    refine zo_iconst (v := 0) hC (by decide) dX7_innings_57 ?_
    refine zo_istore (lv' := [(6, .int 0), (5, .int 0), (0, .ref 0), (1, .int v1), (2, .int v2), (3, .int v3), (4, .int v4)]) hC dX7_innings_58 (by decide) rfl ?_
    refine zo_iconst (v := 0) hC (by decide) dX7_innings_60 ?_
    refine zo_istore (lv' := [(7, .int 0), (6, .int 0), (5, .int 0), (0, .ref 0), (1, .int v1), (2, .int v2), (3, .int v3), (4, .int v4)]) hC dX7_innings_61 (by decide) rfl ?_
    refine zo_sub [3, 5, 6, 7, 2, 1, 0] (lv' := [(0, .ref 0), (2, .int v2), (3, .int v3), (4, .int v4), (5, .int 0), (6, .int 0), (7, .int 0)]) rfl ?_
    refine Zf_X7_innings_63 hC v2 v3 v4 _ (fun v5_10 v6_11 I_12 L_13 => ?_) e_FU 0 0 0 I_8 L_9
    · refine zo_iload hC dX7_innings_141 1 rfl ?_
      refine zo_if_ne (tgt := 156) hC dX7_innings_143 (by decide) (fun c_14 => ?_) (fun c_14 => ?_)
      · refine zo_iload hC dX7_innings_156 1 rfl ?_
        refine zo_iconst (v := 1) hC (by decide) dX7_innings_158 ?_
        refine zo_icmp_ne (tgt := 167) hC dX7_innings_159 (by decide) (fun c_15 => ?_) (fun c_15 => ?_)
        · refine zo_iload hC dX7_innings_167 3 rfl ?_
          refine zo_sub [] (lv' := []) rfl ?_
          exact Zf_X7_innings_169 hC v6_11 I_12 L_13
        · refine zo_iload hC dX7_innings_162 2 rfl ?_
          refine zo_goto (tgt := 169) hC dX7_innings_164 (by decide) ?_
          refine zo_sub [] (lv' := []) rfl ?_
          exact Zf_X7_innings_169 hC v5_10 I_12 L_13
      · refine zo_aload_n hC dX7_innings_146 rfl 0 rfl ?_
        refine zo_getR hC (r := 28) fk7_27 (by decide) gr_0_3 at_0 dX7_innings_147 ?_
        refine zo_getI hC fk7_126 at_28 dX7_innings_150 ?_
        refine zo_goto (tgt := 169) hC dX7_innings_153 (by decide) ?_
        refine zo_sub [] (lv' := []) rfl ?_
        exact Zf_X7_innings_169 hC (I_12 28 3) I_12 L_13
  · refine zo_iconst (v := (-1)) hC (by decide) dX7_innings_26 ?_
    exact zo_iret hC rfl dX7_innings_27

theorem T_X7_innings (v1 : Int32) (v2 : Int32) (v3 : Int32) (v4 : Int32) (I : e_I) (L : e_L) (p : Int32 × e_I × e_L) (hp : f_X7_innings v1 v2 v3 v4 I L = some p) : Mt yX7_innings cX7_innings 9 (some .int) 7 gN [.ref 0, .int v1, .int v2, .int v3, .int v4] I L ((ph_iIL) p) := zo_enter hp (by decide) (Nat.le_of_ble_eq_true rfl) (fun X hC => Zf_X7_innings hC v1 v2 v3 v4 I L)
