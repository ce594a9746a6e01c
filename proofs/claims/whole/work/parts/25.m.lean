def f_X8_laysBest (v1 : Int32) (I : e_I) (L : e_L) : Option (e_I × e_L) :=
  e_let (e_ul L 83 30 (-1)) (fun (L_1 : e_L) =>
  e_b2 (f_X8_fillsRow 0 0 v1 I L_1) (fun (I_2 : e_I) (L_3 : e_L) =>
  some (I_2, L_3)))
set_option maxRecDepth 100000 in
set_option maxHeartbeats 4000000 in
theorem Zf_X8_laysBest {X : e_X} (hC : e_C X cX8_laysBest RX8 2 none 23 gN) (v1 : Int32) (I : e_I) (L : e_L) : Zo X (ph_vIL) (f_X8_laysBest v1 I L) 0 [(0, .ref 83), (1, .int v1)] [] I L := by
  unfold f_X8_laysBest
  refine zo_aload_n hC dX8_laysBest_0 rfl 0 rfl ?_
  refine zo_ldc2 (v := (-1)) hC clX8_290 dX8_laysBest_1 ?_
  refine zo_putL hC fk8_307 ff8_30 at_83 dX8_laysBest_4 ?_
  refine zo_topL (fun L_1 => ?_)
  refine zo_aload_n hC dX8_laysBest_7 rfl 0 rfl ?_
  refine zo_iconst (v := 0) hC (by decide) dX8_laysBest_8 ?_
  refine zo_iconst (v := 0) hC (by decide) dX8_laysBest_9 ?_
  refine zo_iload_n hC dX8_laysBest_10 rfl 1 rfl ?_
  refine zo_callV_vIL hC (ci := 8) [.int 0, .int 0, .int v1] [] me_X8_fillsRow mlX8_310 im_X8_fillsRow se_X8_fillsRow rfl (by decide) at_83 (fun p hp => T_X8_fillsRow 0 0 v1 I L_1 p hp) (by decide) rfl (Nat.le_of_ble_eq_true rfl) dX8_laysBest_11 rfl (fun I_2 L_3 => ?_)
  exact zo_vret hC rfl dX8_laysBest_14

theorem T_X8_laysBest (v1 : Int32) (I : e_I) (L : e_L) (p : e_I × e_L) (hp : f_X8_laysBest v1 I L = some p) : Mt yX8_laysBest cX8_laysBest 2 none 23 gN [.ref 83, .int v1] I L ((ph_vIL) p) := zo_enter hp (by decide) (Nat.le_of_ble_eq_true rfl) (fun X hC => Zf_X8_laysBest hC v1 I L)
def f_X8_best_22 (v1 : Int32) (v2 : Int32) (s0 : Int32) (I : e_I) (L : e_L) : Option (Int64 × e_I × e_L) :=
  e_b1 (f_X8_in v1 1 3) (fun (r_1 : Int32) =>
  e_b1 (f_X8_unless_ s0 r_1) (fun (r_2 : Int32) =>
  e_b2 (f_X8_isRefused r_2 I) (fun (r_3 : Int32) (I_4 : e_I) =>
  if r_3 = 0 then (
    e_b2 (f_X8_laysBest v1 I_4 L) (fun (I_6 : e_I) (L_7 : e_L) =>
    e_b1 (f_X8_part (L_7 83 30) (L_7 83 26) v2) (fun (r_8 : Int64) =>
    some (r_8, I_6, L_7))))
  else (
    some ((-1), I_4, L)))))
set_option maxRecDepth 100000 in
set_option maxHeartbeats 4000000 in
theorem Zf_X8_best_22 {X : e_X} (hC : e_C X cX8_best RX8 3 (some .long) 24 gN) (v1 : Int32) (v2 : Int32) (s0 : Int32) (I : e_I) (L : e_L) : Zo X (ph_lIL) (f_X8_best_22 v1 v2 s0 I L) 22 [(0, .ref 83), (1, .int v1), (2, .int v2)] [.int s0, .ref 83] I L := by
  unfold f_X8_best_22
  refine zo_iload_n hC dX8_best_22 rfl 1 rfl ?_
  refine zo_iconst (v := 1) hC (by decide) dX8_best_23 ?_
  refine zo_iconst (v := 3) hC (by decide) dX8_best_24 ?_
  refine zo_callS_i hC [.int v1, .int 1, .int 3] [.int s0, .ref 83] me_X8_in mlX8_83 sm_X8_in (fun p hp => T_X8_in v1 1 3 I L p hp) (by decide) rfl (Nat.le_of_ble_eq_true rfl) dX8_best_25 rfl (fun r_1 => ?_)
  refine zo_callS_i hC [.int s0, .int r_1] [.ref 83] me_X8_unless_ mlX8_158 sm_X8_unless_ (fun p hp => T_X8_unless_ s0 r_1 I L p hp) (by decide) rfl (Nat.le_of_ble_eq_true rfl) dX8_best_28 rfl (fun r_2 => ?_)
  refine zo_callV_iI hC (ci := 8) [.int r_2] [] me_X8_isRefused mlX8_162 im_X8_isRefused se_X8_isRefused rfl (by decide) at_83 (fun p hp => T_X8_isRefused r_2 I L p hp) (by decide) rfl (Nat.le_of_ble_eq_true rfl) dX8_best_31 rfl (fun r_3 I_4 => ?_)
  refine zo_if_eq (tgt := 41) hC dX8_best_34 (by decide) (fun c_5 => ?_) (fun c_5 => ?_)
  · refine zo_aload_n hC dX8_best_41 rfl 0 rfl ?_
    refine zo_iload_n hC dX8_best_42 rfl 1 rfl ?_
    refine zo_callV_vIL hC (ci := 8) [.int v1] [] me_X8_laysBest mlX8_313 im_X8_laysBest se_X8_laysBest rfl (by decide) at_83 (fun p hp => T_X8_laysBest v1 I_4 L p hp) (by decide) rfl (Nat.le_of_ble_eq_true rfl) dX8_best_43 rfl (fun I_6 L_7 => ?_)
    refine zo_aload_n hC dX8_best_46 rfl 0 rfl ?_
    refine zo_getL hC fk8_307 at_83 dX8_best_47 ?_
    refine zo_aload_n hC dX8_best_50 rfl 0 rfl ?_
    refine zo_getL hC fk8_233 at_83 dX8_best_51 ?_
    refine zo_iload_n hC dX8_best_54 rfl 2 rfl ?_
    refine zo_callS_l hC [.long (L_7 83 30), .long (L_7 83 26), .int v2] [] me_X8_part mlX8_295 sm_X8_part (fun p hp => T_X8_part (L_7 83 30) (L_7 83 26) v2 I_6 L_7 p hp) (by decide) rfl (Nat.le_of_ble_eq_true rfl) dX8_best_55 rfl (fun r_8 => ?_)
    exact zo_lret hC rfl dX8_best_58
  · refine zo_ldc2 (v := (-1)) hC clX8_290 dX8_best_37 ?_
    exact zo_lret hC rfl dX8_best_40

def f_X8_best_21 (v1 : Int32) (v2 : Int32) (I : e_I) (L : e_L) : Option (Int64 × e_I × e_L) :=
  f_X8_best_22 v1 v2 0 I L
set_option maxRecDepth 100000 in
set_option maxHeartbeats 4000000 in
theorem Zf_X8_best_21 {X : e_X} (hC : e_C X cX8_best RX8 3 (some .long) 24 gN) (v1 : Int32) (v2 : Int32) (I : e_I) (L : e_L) : Zo X (ph_lIL) (f_X8_best_21 v1 v2 I L) 21 [(0, .ref 83), (1, .int v1), (2, .int v2)] [.ref 83] I L := by
  unfold f_X8_best_21
  refine zo_iconst (v := 0) hC (by decide) dX8_best_21 ?_
  exact Zf_X8_best_22 hC v1 v2 0 I L

def f_X8_best (v1 : Int32) (v2 : Int32) (I : e_I) (L : e_L) : Option (Int64 × e_I × e_L) :=
  if (I 83 6) = 0 then (
    f_X8_best_21 v1 v2 I L)
  else (
    e_b1 (f_X8_in v2 0 1) (fun (r_2 : Int32) =>
    if r_2 = 0 then (
      f_X8_best_21 v1 v2 I L)
    else (
      f_X8_best_22 v1 v2 1 I L)))
set_option maxRecDepth 100000 in
set_option maxHeartbeats 4000000 in
theorem Zf_X8_best {X : e_X} (hC : e_C X cX8_best RX8 3 (some .long) 24 gN) (v1 : Int32) (v2 : Int32) (I : e_I) (L : e_L) : Zo X (ph_lIL) (f_X8_best v1 v2 I L) 0 [(0, .ref 83), (1, .int v1), (2, .int v2)] [] I L := by
  unfold f_X8_best
  refine zo_aload_n hC dX8_best_0 rfl 0 rfl ?_
  refine zo_aload_n hC dX8_best_1 rfl 0 rfl ?_
  refine zo_getZ hC fk8_174 at_83 dX8_best_2 ?_
  refine zo_if_eq (tgt := 21) hC dX8_best_5 (by decide) (fun c_1 => ?_) (fun c_1 => ?_)
  · exact Zf_X8_best_21 hC v1 v2 I L
  · refine zo_iload_n hC dX8_best_8 rfl 2 rfl ?_
    refine zo_iconst (v := 0) hC (by decide) dX8_best_9 ?_
    refine zo_iconst (v := 1) hC (by decide) dX8_best_10 ?_
    refine zo_callS_i hC [.int v2, .int 0, .int 1] [.ref 83] me_X8_in mlX8_83 sm_X8_in (fun p hp => T_X8_in v2 0 1 I L p hp) (by decide) rfl (Nat.le_of_ble_eq_true rfl) dX8_best_11 rfl (fun r_2 => ?_)
    refine zo_if_eq (tgt := 21) hC dX8_best_14 (by decide) (fun c_3 => ?_) (fun c_3 => ?_)
    · exact Zf_X8_best_21 hC v1 v2 I L
    · refine zo_iconst (v := 1) hC (by decide) dX8_best_17 ?_
      refine zo_goto (tgt := 22) hC dX8_best_18 (by decide) ?_
      exact Zf_X8_best_22 hC v1 v2 1 I L

theorem T_X8_best (v1 : Int32) (v2 : Int32) (I : e_I) (L : e_L) (p : Int64 × e_I × e_L) (hp : f_X8_best v1 v2 I L = some p) : Mt yX8_best cX8_best 3 (some .long) 24 gN [.ref 83, .int v1, .int v2] I L ((ph_lIL) p) := zo_enter hp (by decide) (Nat.le_of_ble_eq_true rfl) (fun X hC => Zf_X8_best hC v1 v2 I L)
def f_X8_bestAt (v1 : Int32) (v2 : Int32) (I : e_I) (L : e_L) : Option (Int32 × e_I × e_L) :=
  e_b1 (f_X8_isBatter v2 I) (fun (r_1 : Int32) =>
  e_b1 (f_X8_in v1 1 3) (fun (r_2 : Int32) =>
  e_b1 (f_X8_unless_ r_1 r_2) (fun (r_3 : Int32) =>
  e_b2 (f_X8_isRefused r_3 I) (fun (r_4 : Int32) (I_5 : e_I) =>
  if r_4 = 0 then (
    e_b2 (f_X8_laysBest v1 I_5 L) (fun (I_7 : e_I) (L_8 : e_L) =>
    e_as (e_ix v2 9 = true) (
    some ((I_7 94 v2.toNatClampNeg), I_7, L_8))))
  else (
    some ((-1), I_5, L))))))
set_option maxRecDepth 100000 in
set_option maxHeartbeats 4000000 in
theorem Zf_X8_bestAt {X : e_X} (hC : e_C X cX8_bestAt RX8 3 (some .int) 24 gN) (v1 : Int32) (v2 : Int32) (I : e_I) (L : e_L) : Zo X (ph_iIL) (f_X8_bestAt v1 v2 I L) 0 [(0, .ref 83), (1, .int v1), (2, .int v2)] [] I L := by
  unfold f_X8_bestAt
  refine zo_aload_n hC dX8_bestAt_0 rfl 0 rfl ?_
  refine zo_aload_n hC dX8_bestAt_1 rfl 0 rfl ?_
  refine zo_iload_n hC dX8_bestAt_2 rfl 2 rfl ?_
  refine zo_callV_i hC (ci := 8) [.int v2] [.ref 83] me_X8_isBatter mlX8_192 im_X8_isBatter se_X8_isBatter rfl (by decide) at_83 (fun p hp => T_X8_isBatter v2 I L p hp) (by decide) rfl (Nat.le_of_ble_eq_true rfl) dX8_bestAt_3 rfl (fun r_1 => ?_)
  refine zo_iload_n hC dX8_bestAt_6 rfl 1 rfl ?_
  refine zo_iconst (v := 1) hC (by decide) dX8_bestAt_7 ?_
  refine zo_iconst (v := 3) hC (by decide) dX8_bestAt_8 ?_
  refine zo_callS_i hC [.int v1, .int 1, .int 3] [.int r_1, .ref 83] me_X8_in mlX8_83 sm_X8_in (fun p hp => T_X8_in v1 1 3 I L p hp) (by decide) rfl (Nat.le_of_ble_eq_true rfl) dX8_bestAt_9 rfl (fun r_2 => ?_)
  refine zo_callS_i hC [.int r_1, .int r_2] [.ref 83] me_X8_unless_ mlX8_158 sm_X8_unless_ (fun p hp => T_X8_unless_ r_1 r_2 I L p hp) (by decide) rfl (Nat.le_of_ble_eq_true rfl) dX8_bestAt_12 rfl (fun r_3 => ?_)
  refine zo_callV_iI hC (ci := 8) [.int r_3] [] me_X8_isRefused mlX8_162 im_X8_isRefused se_X8_isRefused rfl (by decide) at_83 (fun p hp => T_X8_isRefused r_3 I L p hp) (by decide) rfl (Nat.le_of_ble_eq_true rfl) dX8_bestAt_15 rfl (fun r_4 I_5 => ?_)
  refine zo_if_eq (tgt := 23) hC dX8_bestAt_18 (by decide) (fun c_6 => ?_) (fun c_6 => ?_)
  · refine zo_aload_n hC dX8_bestAt_23 rfl 0 rfl ?_
    refine zo_iload_n hC dX8_bestAt_24 rfl 1 rfl ?_
    refine zo_callV_vIL hC (ci := 8) [.int v1] [] me_X8_laysBest mlX8_313 im_X8_laysBest se_X8_laysBest rfl (by decide) at_83 (fun p hp => T_X8_laysBest v1 I_5 L p hp) (by decide) rfl (Nat.le_of_ble_eq_true rfl) dX8_bestAt_25 rfl (fun I_7 L_8 => ?_)
    refine zo_aload_n hC dX8_bestAt_28 rfl 0 rfl ?_
    refine zo_getR hC (r := 94) fk8_45 (by decide) gr_83_29 at_83 dX8_bestAt_29 ?_
    refine zo_iload_n hC dX8_bestAt_32 rfl 2 rfl ?_
    refine zo_as (fun h_9 => ?_)
    refine zo_iald hC ar_94 (e_ix_vp h_9) dX8_bestAt_33 ?_
    exact zo_iret hC rfl dX8_bestAt_34
  · refine zo_iconst (v := (-1)) hC (by decide) dX8_bestAt_21 ?_
    exact zo_iret hC rfl dX8_bestAt_22

theorem T_X8_bestAt (v1 : Int32) (v2 : Int32) (I : e_I) (L : e_L) (p : Int32 × e_I × e_L) (hp : f_X8_bestAt v1 v2 I L = some p) : Mt yX8_bestAt cX8_bestAt 3 (some .int) 24 gN [.ref 83, .int v1, .int v2] I L ((ph_iIL) p) := zo_enter hp (by decide) (Nat.le_of_ble_eq_true rfl) (fun X hC => Zf_X8_bestAt hC v1 v2 I L)
def f_X8_changes (a1 : Nat) (v2 : Int32) (v3 : Int32) (I : e_I) : Option (e_I) :=
  e_as (e_ix v2 (e_ln a1) = true) (
  e_let (I a1 v2.toNatClampNeg) (fun (x_2 : Int32) =>
  e_as (e_ix v3 (e_ln a1) = true) (
  e_as (e_ix v2 (e_ln a1) = true) (
  e_let (e_ui I a1 v2.toNatClampNeg (I a1 v3.toNatClampNeg)) (fun (I_5 : e_I) =>
  e_as (e_ix v3 (e_ln a1) = true) (
  e_let (e_ui I_5 a1 v3.toNatClampNeg x_2) (fun (I_7 : e_I) =>
  some I_7)))))))
set_option maxRecDepth 100000 in
set_option maxHeartbeats 4000000 in
theorem Zf_X8_changes {X : e_X} (hC : e_C X cX8_changes RX8 5 none 0 gN) (a1 : Nat) (ha1 : e_ir a1) (v2 : Int32) (v3 : Int32) (I : e_I) (L : e_L) : Zo X (ph_vI L) (f_X8_changes a1 v2 v3 I) 0 [(0, .ref 83), (1, .ref a1), (2, .int v2), (3, .int v3)] [] I L := by
  unfold f_X8_changes
  refine zo_aload_n hC dX8_changes_0 rfl 1 rfl ?_
  refine zo_iload_n hC dX8_changes_1 rfl 2 rfl ?_
  refine zo_as (fun h_1 => ?_)
  refine zo_iald hC (e_ir_ar ha1) (e_ix_vp h_1) dX8_changes_2 ?_
  refine zo_topi (fun x_2 => ?_)
  refine zo_istore (lv' := [(4, .int x_2), (0, .ref 83), (1, .ref a1), (2, .int v2), (3, .int v3)]) hC dX8_changes_3 (by decide) rfl ?_
  refine zo_aload_n hC dX8_changes_5 rfl 2 rfl ?_
  refine zo_iload_n hC dX8_changes_6 rfl 3 rfl ?_
  refine zo_aload_n hC dX8_changes_7 rfl 2 rfl ?_
  refine zo_iload_n hC dX8_changes_8 rfl 4 rfl ?_
  refine zo_as (fun h_3 => ?_)
  refine zo_iald hC (e_ir_ar ha1) (e_ix_vp h_3) dX8_changes_9 ?_
  refine zo_as (fun h_4 => ?_)
  refine zo_iast hC (e_ir_ar ha1) (e_ix_vp h_4) dX8_changes_10 ?_
  refine zo_topI (fun I_5 => ?_)
  refine zo_aload_n hC dX8_changes_11 rfl 2 rfl ?_
  refine zo_iload_n hC dX8_changes_12 rfl 4 rfl ?_
  refine zo_iload hC dX8_changes_13 0 rfl ?_
  refine zo_as (fun h_6 => ?_)
  refine zo_iast hC (e_ir_ar ha1) (e_ix_vp h_6) dX8_changes_15 ?_
  refine zo_topI (fun I_7 => ?_)
  exact zo_vret hC rfl dX8_changes_16

theorem T_X8_changes (a1 : Nat) (ha1 : e_ir a1) (v2 : Int32) (v3 : Int32) (I : e_I) (L : e_L) (p : e_I) (hp : f_X8_changes a1 v2 v3 I = some p) : Mt yX8_changes cX8_changes 5 none 0 gN [.ref 83, .ref a1, .int v2, .int v3] I L ((ph_vI L) p) := zo_enter hp (by decide) (Nat.le_of_ble_eq_true rfl) (fun X hC => Zf_X8_changes hC a1 ha1 v2 v3 I L)
def f_X8_exchanged_120 (s0 : Int32) (I : e_I) (L : e_L) : Option (Int32 × e_I × e_L) :=
  some (s0, I, L)
set_option maxRecDepth 100000 in
set_option maxHeartbeats 4000000 in
theorem Zf_X8_exchanged_120 {X : e_X} (hC : e_C X cX8_exchanged RX8 8 (some .int) 11 gN) (s0 : Int32) (I : e_I) (L : e_L) : Zo X (ph_iIL) (f_X8_exchanged_120 s0 I L) 120 [] [.int s0] I L := by
  unfold f_X8_exchanged_120
  exact zo_iret hC rfl dX8_exchanged_120

def f_X8_exchanged_22 (v1 : Int32) (v2 : Int32) (v3 : Int32) (s0 : Int32) (I : e_I) (L : e_L) : Option (Int32 × e_I × e_L) :=
  e_b1 (f_X8_in v3 1 5) (fun (r_1 : Int32) =>
  e_b1 (f_X8_unless_ s0 r_1) (fun (r_2 : Int32) =>
  e_b2 (f_X8_isRefused r_2 I) (fun (r_3 : Int32) (I_4 : e_I) =>
  if r_3 = 0 then (
    e_b3 (f_X8_worthOf 85 60 v3 I_4 L) (fun (r_6 : Int64) (I_7 : e_I) (L_8 : e_L) =>
    e_b1 (f_X8_lays 93 85 0 60 (I_7 85 (0 : Int32).toNatClampNeg) I_7) (fun (I_9 : e_I) =>
    e_b1 (f_X8_changes 93 v1 v2 I_9) (fun (I_10 : e_I) =>
    e_b3 (f_X8_worthOf 93 0 v3 I_10 L_8) (fun (r_11 : Int64) (I_12 : e_I) (L_13 : e_L) =>
    if (lg_cmp r_11 r_6) ≤ 0 then (
      if (lg_cmp r_11 r_6) ≠ 0 then (
        f_X8_exchanged_120 (-2) I_12 L_13)
      else (
        f_X8_exchanged_120 0 I_12 L_13))
    else (
      f_X8_exchanged_120 1 I_12 L_13))))))
  else (
    some ((-1), I_4, L)))))
set_option maxRecDepth 100000 in
set_option maxHeartbeats 4000000 in
theorem Zf_X8_exchanged_22 {X : e_X} (hC : e_C X cX8_exchanged RX8 8 (some .int) 11 gN) (v1 : Int32) (v2 : Int32) (v3 : Int32) (s0 : Int32) (I : e_I) (L : e_L) : Zo X (ph_iIL) (f_X8_exchanged_22 v1 v2 v3 s0 I L) 22 [(0, .ref 83), (1, .int v1), (2, .int v2), (3, .int v3)] [.int s0, .ref 83] I L := by
  unfold f_X8_exchanged_22
  refine zo_iload_n hC dX8_exchanged_22 rfl 3 rfl ?_
  refine zo_iconst (v := 1) hC (by decide) dX8_exchanged_23 ?_
  refine zo_iconst (v := 5) hC (by decide) dX8_exchanged_24 ?_
  refine zo_callS_i hC [.int v3, .int 1, .int 5] [.int s0, .ref 83] me_X8_in mlX8_83 sm_X8_in (fun p hp => T_X8_in v3 1 5 I L p hp) (by decide) rfl (Nat.le_of_ble_eq_true rfl) dX8_exchanged_25 rfl (fun r_1 => ?_)
  refine zo_callS_i hC [.int s0, .int r_1] [.ref 83] me_X8_unless_ mlX8_158 sm_X8_unless_ (fun p hp => T_X8_unless_ s0 r_1 I L p hp) (by decide) rfl (Nat.le_of_ble_eq_true rfl) dX8_exchanged_28 rfl (fun r_2 => ?_)
  refine zo_callV_iI hC (ci := 8) [.int r_2] [] me_X8_isRefused mlX8_162 im_X8_isRefused se_X8_isRefused rfl (by decide) at_83 (fun p hp => T_X8_isRefused r_2 I L p hp) (by decide) rfl (Nat.le_of_ble_eq_true rfl) dX8_exchanged_31 rfl (fun r_3 I_4 => ?_)
  refine zo_if_eq (tgt := 39) hC dX8_exchanged_34 (by decide) (fun c_5 => ?_) (fun c_5 => ?_)
  · refine zo_aload_n hC dX8_exchanged_39 rfl 0 rfl ?_
    refine zo_aload_n hC dX8_exchanged_40 rfl 0 rfl ?_
    refine zo_getR hC (r := 85) fk8_17 (by decide) gr_83_7 at_83 dX8_exchanged_41 ?_
    refine zo_bipush (v := 60) hC (by decide) dX8_exchanged_44 ?_
    refine zo_iload_n hC dX8_exchanged_46 rfl 3 rfl ?_
    refine zo_callV_lIL hC (ci := 8) [.ref 85, .int 60, .int v3] [] me_X8_worthOf mlX8_303 im_X8_worthOf se_X8_worthOf rfl (by decide) at_83 (fun p hp => T_X8_worthOf 85 ir_85 60 v3 I_4 L p hp) (by decide) rfl (Nat.le_of_ble_eq_true rfl) dX8_exchanged_47 rfl (fun r_6 I_7 L_8 => ?_)
    refine zo_lstore (lv' := [(4, .long r_6), (0, .ref 83), (1, .int v1), (2, .int v2), (3, .int v3)]) hC dX8_exchanged_50 (by decide) rfl ?_
    refine zo_aload_n hC dX8_exchanged_52 rfl 1 rfl ?_
    refine zo_getR hC (r := 93) fk8_42 (by decide) gr_83_28 at_83 dX8_exchanged_53 ?_
    refine zo_iconst (v := 0) hC (by decide) dX8_exchanged_56 ?_
    refine zo_aload_n hC dX8_exchanged_57 rfl 1 rfl ?_
    refine zo_getR hC (r := 85) fk8_17 (by decide) gr_83_7 at_83 dX8_exchanged_58 ?_
    refine zo_bipush (v := 60) hC (by decide) dX8_exchanged_61 ?_
    refine zo_aload_n hC dX8_exchanged_63 rfl 1 rfl ?_
    refine zo_getR hC (r := 85) fk8_17 (by decide) gr_83_7 at_83 dX8_exchanged_64 ?_
    refine zo_iconst (v := 0) hC (by decide) dX8_exchanged_67 ?_
    refine zo_iald hC ar_85 (e_ix_vp (by decide)) dX8_exchanged_68 ?_
    refine zo_callS_vI hC [.ref 93, .int 0, .ref 85, .int 60, .int (I_7 85 (0 : Int32).toNatClampNeg)] [] me_X8_lays mlX8_181 sm_X8_lays (fun p hp => T_X8_lays 93 ir_93 85 ir_85 0 60 (I_7 85 (0 : Int32).toNatClampNeg) I_7 L_8 p hp) (by decide) rfl (Nat.le_of_ble_eq_true rfl) dX8_exchanged_69 rfl (fun I_9 => ?_)
    refine zo_aload_n hC dX8_exchanged_72 rfl 1 rfl ?_
    refine zo_aload_n hC dX8_exchanged_73 rfl 1 rfl ?_
    refine zo_getR hC (r := 93) fk8_42 (by decide) gr_83_28 at_83 dX8_exchanged_74 ?_
    refine zo_iload_n hC dX8_exchanged_77 rfl 2 rfl ?_
    refine zo_iload_n hC dX8_exchanged_78 rfl 3 rfl ?_
    refine zo_callV_vI hC (ci := 8) [.ref 93, .int v1, .int v2] [] me_X8_changes mlX8_316 im_X8_changes se_X8_changes rfl (by decide) at_83 (fun p hp => T_X8_changes 93 ir_93 v1 v2 I_9 L_8 p hp) (by decide) rfl (Nat.le_of_ble_eq_true rfl) dX8_exchanged_79 rfl (fun I_10 => ?_)
    refine zo_aload_n hC dX8_exchanged_82 rfl 1 rfl ?_
    refine zo_aload_n hC dX8_exchanged_83 rfl 1 rfl ?_
    refine zo_getR hC (r := 93) fk8_42 (by decide) gr_83_28 at_83 dX8_exchanged_84 ?_
    refine zo_iconst (v := 0) hC (by decide) dX8_exchanged_87 ?_
    refine zo_iload_n hC dX8_exchanged_88 rfl 4 rfl ?_
    refine zo_callV_lIL hC (ci := 8) [.ref 93, .int 0, .int v3] [] me_X8_worthOf mlX8_303 im_X8_worthOf se_X8_worthOf rfl (by decide) at_83 (fun p hp => T_X8_worthOf 93 ir_93 0 v3 I_10 L_8 p hp) (by decide) rfl (Nat.le_of_ble_eq_true rfl) dX8_exchanged_89 rfl (fun r_11 I_12 L_13 => ?_)
    refine zo_lstore (lv' := [(6, .long r_11), (4, .long r_6), (0, .ref 83), (1, .int v1), (2, .int v2), (3, .int v3)]) hC dX8_exchanged_92 (by decide) rfl ?_
    refine zo_lload hC dX8_exchanged_94 0 rfl ?_
    refine zo_lload hC dX8_exchanged_96 1 rfl ?_
    refine zo_lcmp hC dX8_exchanged_98 ?_
    refine zo_if_le (tgt := 106) hC dX8_exchanged_99 (by decide) (fun c_14 => ?_) (fun c_14 => ?_)
    · refine zo_lload hC dX8_exchanged_106 0 rfl ?_
      refine zo_lload hC dX8_exchanged_108 1 rfl ?_
      refine zo_lcmp hC dX8_exchanged_110 ?_
      refine zo_if_ne (tgt := 118) hC dX8_exchanged_111 (by decide) (fun c_15 => ?_) (fun c_15 => ?_)
      · refine zo_bipush (v := (-2)) hC (by decide) dX8_exchanged_118 ?_
        refine zo_sub [] (lv' := []) rfl ?_
        exact Zf_X8_exchanged_120 hC (-2) I_12 L_13
      · refine zo_iconst (v := 0) hC (by decide) dX8_exchanged_114 ?_
        refine zo_goto (tgt := 120) hC dX8_exchanged_115 (by decide) ?_
        refine zo_sub [] (lv' := []) rfl ?_
        exact Zf_X8_exchanged_120 hC 0 I_12 L_13
    · refine zo_iconst (v := 1) hC (by decide) dX8_exchanged_102 ?_
      refine zo_goto (tgt := 120) hC dX8_exchanged_103 (by decide) ?_
      refine zo_sub [] (lv' := []) rfl ?_
      exact Zf_X8_exchanged_120 hC 1 I_12 L_13
  · refine zo_iconst (v := (-1)) hC (by decide) dX8_exchanged_37 ?_
    exact zo_iret hC rfl dX8_exchanged_38

def f_X8_exchanged_21 (v1 : Int32) (v2 : Int32) (v3 : Int32) (I : e_I) (L : e_L) : Option (Int32 × e_I × e_L) :=
  f_X8_exchanged_22 v1 v2 v3 0 I L
set_option maxRecDepth 100000 in
set_option maxHeartbeats 4000000 in
theorem Zf_X8_exchanged_21 {X : e_X} (hC : e_C X cX8_exchanged RX8 8 (some .int) 11 gN) (v1 : Int32) (v2 : Int32) (v3 : Int32) (I : e_I) (L : e_L) : Zo X (ph_iIL) (f_X8_exchanged_21 v1 v2 v3 I L) 21 [(0, .ref 83), (1, .int v1), (2, .int v2), (3, .int v3)] [.ref 83] I L := by
  unfold f_X8_exchanged_21
  refine zo_iconst (v := 0) hC (by decide) dX8_exchanged_21 ?_
  exact Zf_X8_exchanged_22 hC v1 v2 v3 0 I L

def f_X8_exchanged (v1 : Int32) (v2 : Int32) (v3 : Int32) (I : e_I) (L : e_L) : Option (Int32 × e_I × e_L) :=
  e_b1 (f_X8_isBatter v1 I) (fun (r_1 : Int32) =>
  if r_1 = 0 then (
    f_X8_exchanged_21 v1 v2 v3 I L)
  else (
    e_b1 (f_X8_isBatter v2 I) (fun (r_3 : Int32) =>
    if r_3 = 0 then (
      f_X8_exchanged_21 v1 v2 v3 I L)
    else (
      f_X8_exchanged_22 v1 v2 v3 1 I L))))
set_option maxRecDepth 100000 in
set_option maxHeartbeats 4000000 in
theorem Zf_X8_exchanged {X : e_X} (hC : e_C X cX8_exchanged RX8 8 (some .int) 11 gN) (v1 : Int32) (v2 : Int32) (v3 : Int32) (I : e_I) (L : e_L) : Zo X (ph_iIL) (f_X8_exchanged v1 v2 v3 I L) 0 [(0, .ref 83), (1, .int v1), (2, .int v2), (3, .int v3)] [] I L := by
  unfold f_X8_exchanged
  refine zo_aload_n hC dX8_exchanged_0 rfl 0 rfl ?_
  refine zo_aload_n hC dX8_exchanged_1 rfl 0 rfl ?_
  refine zo_iload_n hC dX8_exchanged_2 rfl 1 rfl ?_
  refine zo_callV_i hC (ci := 8) [.int v1] [.ref 83] me_X8_isBatter mlX8_192 im_X8_isBatter se_X8_isBatter rfl (by decide) at_83 (fun p hp => T_X8_isBatter v1 I L p hp) (by decide) rfl (Nat.le_of_ble_eq_true rfl) dX8_exchanged_3 rfl (fun r_1 => ?_)
  refine zo_if_eq (tgt := 21) hC dX8_exchanged_6 (by decide) (fun c_2 => ?_) (fun c_2 => ?_)
  · exact Zf_X8_exchanged_21 hC v1 v2 v3 I L
  · refine zo_aload_n hC dX8_exchanged_9 rfl 0 rfl ?_
    refine zo_iload_n hC dX8_exchanged_10 rfl 2 rfl ?_
    refine zo_callV_i hC (ci := 8) [.int v2] [.ref 83] me_X8_isBatter mlX8_192 im_X8_isBatter se_X8_isBatter rfl (by decide) at_83 (fun p hp => T_X8_isBatter v2 I L p hp) (by decide) rfl (Nat.le_of_ble_eq_true rfl) dX8_exchanged_11 rfl (fun r_3 => ?_)
    refine zo_if_eq (tgt := 21) hC dX8_exchanged_14 (by decide) (fun c_4 => ?_) (fun c_4 => ?_)
    · exact Zf_X8_exchanged_21 hC v1 v2 v3 I L
    · refine zo_iconst (v := 1) hC (by decide) dX8_exchanged_17 ?_
      refine zo_goto (tgt := 22) hC dX8_exchanged_18 (by decide) ?_
      exact Zf_X8_exchanged_22 hC v1 v2 v3 1 I L

theorem T_X8_exchanged (v1 : Int32) (v2 : Int32) (v3 : Int32) (I : e_I) (L : e_L) (p : Int32 × e_I × e_L) (hp : f_X8_exchanged v1 v2 v3 I L = some p) : Mt yX8_exchanged cX8_exchanged 8 (some .int) 11 gN [.ref 83, .int v1, .int v2, .int v3] I L ((ph_iIL) p) := zo_enter hp (by decide) (Nat.le_of_ble_eq_true rfl) (fun X hC => Zf_X8_exchanged hC v1 v2 v3 I L)
def f_X8_log_58 (s0 : Int32) (I : e_I) : Option (Int32 × e_I) :=
  some (s0, I)
set_option maxRecDepth 100000 in
set_option maxHeartbeats 4000000 in
theorem Zf_X8_log_58 {X : e_X} (hC : e_C X cX8_log RX8 3 (some .int) 1 gN) (L : e_L) (s0 : Int32) (I : e_I) : Zo X (ph_iI L) (f_X8_log_58 s0 I) 58 [] [.int s0] I L := by
  unfold f_X8_log_58
  exact zo_iret hC rfl dX8_log_58

def f_X8_log_39 (v1 : Int32) (v2 : Int32) (s0 : Int32) (I : e_I) : Option (Int32 × e_I) :=
  e_b1 (f_X8_unless s0) (fun (r_1 : Int32) =>
  e_b2 (f_X8_isRefused r_1 I) (fun (r_2 : Int32) (I_3 : e_I) =>
  if r_2 = 0 then (
    e_b1 (f_X8_logged v1 v2 I_3) (fun (r_5 : Int32) =>
    f_X8_log_58 r_5 I_3))
  else (
    f_X8_log_58 (-1) I_3)))
set_option maxRecDepth 100000 in
set_option maxHeartbeats 4000000 in
theorem Zf_X8_log_39 {X : e_X} (hC : e_C X cX8_log RX8 3 (some .int) 1 gN) (L : e_L) (v1 : Int32) (v2 : Int32) (s0 : Int32) (I : e_I) : Zo X (ph_iI L) (f_X8_log_39 v1 v2 s0 I) 39 [(0, .ref 83), (1, .int v1), (2, .int v2)] [.int s0, .ref 83] I L := by
  unfold f_X8_log_39
  refine zo_callS_i hC [.int s0] [.ref 83] me_X8_unless mlX8_189 sm_X8_unless (fun p hp => T_X8_unless s0 I L p hp) (by decide) rfl (Nat.le_of_ble_eq_true rfl) dX8_log_39 rfl (fun r_1 => ?_)
  refine zo_callV_iI hC (ci := 8) [.int r_1] [] me_X8_isRefused mlX8_162 im_X8_isRefused se_X8_isRefused rfl (by decide) at_83 (fun p hp => T_X8_isRefused r_1 I L p hp) (by decide) rfl (Nat.le_of_ble_eq_true rfl) dX8_log_42 rfl (fun r_2 I_3 => ?_)
  refine zo_if_eq (tgt := 52) hC dX8_log_45 (by decide) (fun c_4 => ?_) (fun c_4 => ?_)
  · refine zo_aload_n hC dX8_log_52 rfl 0 rfl ?_
    refine zo_iload_n hC dX8_log_53 rfl 1 rfl ?_
    refine zo_iload_n hC dX8_log_54 rfl 2 rfl ?_
    refine zo_callV_i hC (ci := 8) [.int v1, .int v2] [] me_X8_logged mlX8_198 im_X8_logged se_X8_logged rfl (by decide) at_83 (fun p hp => T_X8_logged v1 v2 I_3 L p hp) (by decide) rfl (Nat.le_of_ble_eq_true rfl) dX8_log_55 rfl (fun r_5 => ?_)
    refine zo_sub [] (lv' := []) rfl ?_
    exact Zf_X8_log_58 hC L r_5 I_3
  · refine zo_iconst (v := (-1)) hC (by decide) dX8_log_48 ?_
    refine zo_goto (tgt := 58) hC dX8_log_49 (by decide) ?_
    refine zo_sub [] (lv' := []) rfl ?_
    exact Zf_X8_log_58 hC L (-1) I_3

def f_X8_log_38 (v1 : Int32) (v2 : Int32) (I : e_I) : Option (Int32 × e_I) :=
  f_X8_log_39 v1 v2 0 I
set_option maxRecDepth 100000 in
set_option maxHeartbeats 4000000 in
theorem Zf_X8_log_38 {X : e_X} (hC : e_C X cX8_log RX8 3 (some .int) 1 gN) (L : e_L) (v1 : Int32) (v2 : Int32) (I : e_I) : Zo X (ph_iI L) (f_X8_log_38 v1 v2 I) 38 [(0, .ref 83), (1, .int v1), (2, .int v2)] [.ref 83] I L := by
  unfold f_X8_log_38
  refine zo_iconst (v := 0) hC (by decide) dX8_log_38 ?_
  exact Zf_X8_log_39 hC L v1 v2 0 I

def f_X8_log (v1 : Int32) (v2 : Int32) (I : e_I) : Option (Int32 × e_I) :=
  if (I 83 6) = 0 then (
    f_X8_log_38 v1 v2 I)
  else (
    e_b1 (f_X8_in v1 0 ((I 85 (75 : Int32).toNatClampNeg) - 1)) (fun (r_2 : Int32) =>
    if r_2 = 0 then (
      f_X8_log_38 v1 v2 I)
    else (
      e_b1 (f_X8_in v2 0 5) (fun (r_4 : Int32) =>
      if r_4 = 0 then (
        f_X8_log_38 v1 v2 I)
      else (
        f_X8_log_39 v1 v2 1 I)))))
set_option maxRecDepth 100000 in
set_option maxHeartbeats 4000000 in
theorem Zf_X8_log {X : e_X} (hC : e_C X cX8_log RX8 3 (some .int) 1 gN) (v1 : Int32) (v2 : Int32) (I : e_I) (L : e_L) : Zo X (ph_iI L) (f_X8_log v1 v2 I) 0 [(0, .ref 83), (1, .int v1), (2, .int v2)] [] I L := by
  unfold f_X8_log
  refine zo_aload_n hC dX8_log_0 rfl 0 rfl ?_
  refine zo_aload_n hC dX8_log_1 rfl 0 rfl ?_
  refine zo_getZ hC fk8_174 at_83 dX8_log_2 ?_
  refine zo_if_eq (tgt := 38) hC dX8_log_5 (by decide) (fun c_1 => ?_) (fun c_1 => ?_)
  · exact Zf_X8_log_38 hC L v1 v2 I
  · refine zo_iload_n hC dX8_log_8 rfl 1 rfl ?_
    refine zo_iconst (v := 0) hC (by decide) dX8_log_9 ?_
    refine zo_aload_n hC dX8_log_10 rfl 0 rfl ?_
    refine zo_getR hC (r := 85) fk8_17 (by decide) gr_83_7 at_83 dX8_log_11 ?_
    refine zo_bipush (v := 75) hC (by decide) dX8_log_14 ?_
    refine zo_iald hC ar_85 (e_ix_vp (by decide)) dX8_log_16 ?_
    refine zo_iconst (v := 1) hC (by decide) dX8_log_17 ?_
    refine zo_isub hC dX8_log_18 ?_
    refine zo_callS_i hC [.int v1, .int 0, .int ((I 85 (75 : Int32).toNatClampNeg) - 1)] [.ref 83] me_X8_in mlX8_83 sm_X8_in (fun p hp => T_X8_in v1 0 ((I 85 (75 : Int32).toNatClampNeg) - 1) I L p hp) (by decide) rfl (Nat.le_of_ble_eq_true rfl) dX8_log_19 rfl (fun r_2 => ?_)
    refine zo_if_eq (tgt := 38) hC dX8_log_22 (by decide) (fun c_3 => ?_) (fun c_3 => ?_)
    · exact Zf_X8_log_38 hC L v1 v2 I
    · refine zo_iload_n hC dX8_log_25 rfl 2 rfl ?_
      refine zo_iconst (v := 0) hC (by decide) dX8_log_26 ?_
      refine zo_iconst (v := 5) hC (by decide) dX8_log_27 ?_
      refine zo_callS_i hC [.int v2, .int 0, .int 5] [.ref 83] me_X8_in mlX8_83 sm_X8_in (fun p hp => T_X8_in v2 0 5 I L p hp) (by decide) rfl (Nat.le_of_ble_eq_true rfl) dX8_log_28 rfl (fun r_4 => ?_)
      refine zo_if_eq (tgt := 38) hC dX8_log_31 (by decide) (fun c_5 => ?_) (fun c_5 => ?_)
      · exact Zf_X8_log_38 hC L v1 v2 I
      · refine zo_iconst (v := 1) hC (by decide) dX8_log_34 ?_
        refine zo_goto (tgt := 39) hC dX8_log_35 (by decide) ?_
        exact Zf_X8_log_39 hC L v1 v2 1 I

theorem T_X8_log (v1 : Int32) (v2 : Int32) (I : e_I) (L : e_L) (p : Int32 × e_I) (hp : f_X8_log v1 v2 I = some p) : Mt yX8_log cX8_log 3 (some .int) 1 gN [.ref 83, .int v1, .int v2] I L ((ph_iI L) p) := zo_enter hp (by decide) (Nat.le_of_ble_eq_true rfl) (fun X hC => Zf_X8_log hC v1 v2 I L)
def f_X8_addedBy_38 (I : e_I) (L : e_L) (v1 : Int32) (s0 : Int64) : Option (Int64) :=
  e_b1 (f_X8_logged v1 2 I) (fun (r_1 : Int32) =>
  e_b1 (f_X8_logged v1 5 I) (fun (r_2 : Int32) =>
  e_b1 (f_X8_logged v1 4 I) (fun (r_3 : Int32) =>
  e_as (e_ix (((8 : Int32) * r_2) + r_3) 24 = true) (
  some (((r_1.toInt64 * (L 83 26)) + s0) - (L 89 (((8 : Int32) * r_2) + r_3).toNatClampNeg))))))
set_option maxRecDepth 100000 in
set_option maxHeartbeats 4000000 in
theorem Zf_X8_addedBy_38 {X : e_X} (hC : e_C X cX8_addedBy RX8 4 (some .long) 1 gN) (I : e_I) (L : e_L) (v1 : Int32) (s0 : Int64) : Zo X (ph_l I L) (f_X8_addedBy_38 I L v1 s0) 38 [(0, .ref 83), (1, .int v1)] [.long s0] I L := by
  unfold f_X8_addedBy_38
  refine zo_lstore_n (lv' := [(2, .long s0), (0, .ref 83), (1, .int v1)]) hC dX8_addedBy_38 rfl (by decide) rfl ?_
  refine zo_aload_n hC dX8_addedBy_39 rfl 1 rfl ?_
  refine zo_iload_n hC dX8_addedBy_40 rfl 2 rfl ?_
  refine zo_iconst (v := 2) hC (by decide) dX8_addedBy_41 ?_
  refine zo_callV_i hC (ci := 8) [.int v1, .int 2] [] me_X8_logged mlX8_198 im_X8_logged se_X8_logged rfl (by decide) at_83 (fun p hp => T_X8_logged v1 2 I L p hp) (by decide) rfl (Nat.le_of_ble_eq_true rfl) dX8_addedBy_42 rfl (fun r_1 => ?_)
  refine zo_i2l hC dX8_addedBy_45 ?_
  refine zo_aload_n hC dX8_addedBy_46 rfl 1 rfl ?_
  refine zo_getL hC fk8_233 at_83 dX8_addedBy_47 ?_
  refine zo_lmul hC dX8_addedBy_50 ?_
  refine zo_lload_n hC dX8_addedBy_51 rfl 0 rfl ?_
  refine zo_ladd hC dX8_addedBy_52 ?_
  refine zo_aload_n hC dX8_addedBy_53 rfl 1 rfl ?_
  refine zo_getR hC (r := 89) fk8_29 (by decide) gr_83_22 at_83 dX8_addedBy_54 ?_
  refine zo_bipush (v := 8) hC (by decide) dX8_addedBy_57 ?_
  refine zo_aload_n hC dX8_addedBy_59 rfl 1 rfl ?_
  refine zo_iload_n hC dX8_addedBy_60 rfl 2 rfl ?_
  refine zo_iconst (v := 5) hC (by decide) dX8_addedBy_61 ?_
  refine zo_callV_i hC (ci := 8) [.int v1, .int 5] [.int 8, .ref 89, .long ((r_1.toInt64 * (L 83 26)) + s0)] me_X8_logged mlX8_198 im_X8_logged se_X8_logged rfl (by decide) at_83 (fun p hp => T_X8_logged v1 5 I L p hp) (by decide) rfl (Nat.le_of_ble_eq_true rfl) dX8_addedBy_62 rfl (fun r_2 => ?_)
  refine zo_imul hC dX8_addedBy_65 ?_
  refine zo_aload_n hC dX8_addedBy_66 rfl 1 rfl ?_
  refine zo_iload_n hC dX8_addedBy_67 rfl 2 rfl ?_
  refine zo_iconst (v := 4) hC (by decide) dX8_addedBy_68 ?_
  refine zo_callV_i hC (ci := 8) [.int v1, .int 4] [.int ((8 : Int32) * r_2), .ref 89, .long ((r_1.toInt64 * (L 83 26)) + s0)] me_X8_logged mlX8_198 im_X8_logged se_X8_logged rfl (by decide) at_83 (fun p hp => T_X8_logged v1 4 I L p hp) (by decide) rfl (Nat.le_of_ble_eq_true rfl) dX8_addedBy_69 rfl (fun r_3 => ?_)
  refine zo_iadd hC dX8_addedBy_72 ?_
  refine zo_as (fun h_4 => ?_)
  refine zo_lald hC ar_89 (e_ix_vp h_4) dX8_addedBy_73 ?_
  refine zo_lsub hC dX8_addedBy_74 ?_
  exact zo_lret hC rfl dX8_addedBy_75

def f_X8_addedBy (v1 : Int32) (I : e_I) (L : e_L) : Option (Int64) :=
  e_b1 (f_X8_logged v1 7 I) (fun (r_1 : Int32) =>
  if r_1 ≠ 3 then (
    e_b1 (f_X8_logged v1 7 I) (fun (r_3 : Int32) =>
    e_b1 (f_X8_logged v1 6 I) (fun (r_4 : Int32) =>
    e_as (e_ix (((8 : Int32) * r_3) + r_4) 24 = true) (
    f_X8_addedBy_38 I L v1 (L 89 (((8 : Int32) * r_3) + r_4).toNatClampNeg)))))
  else (
    f_X8_addedBy_38 I L v1 0))
set_option maxRecDepth 100000 in
set_option maxHeartbeats 4000000 in
theorem Zf_X8_addedBy {X : e_X} (hC : e_C X cX8_addedBy RX8 4 (some .long) 1 gN) (v1 : Int32) (I : e_I) (L : e_L) : Zo X (ph_l I L) (f_X8_addedBy v1 I L) 0 [(0, .ref 83), (1, .int v1)] [] I L := by
  unfold f_X8_addedBy
  refine zo_aload_n hC dX8_addedBy_0 rfl 0 rfl ?_
  refine zo_iload_n hC dX8_addedBy_1 rfl 1 rfl ?_
  refine zo_bipush (v := 7) hC (by decide) dX8_addedBy_2 ?_
  refine zo_callV_i hC (ci := 8) [.int v1, .int 7] [] me_X8_logged mlX8_198 im_X8_logged se_X8_logged rfl (by decide) at_83 (fun p hp => T_X8_logged v1 7 I L p hp) (by decide) rfl (Nat.le_of_ble_eq_true rfl) dX8_addedBy_4 rfl (fun r_1 => ?_)
  refine zo_iconst (v := 3) hC (by decide) dX8_addedBy_7 ?_
  refine zo_icmp_ne (tgt := 15) hC dX8_addedBy_8 (by decide) (fun c_2 => ?_) (fun c_2 => ?_)
  · refine zo_aload_n hC dX8_addedBy_15 rfl 0 rfl ?_
    refine zo_getR hC (r := 89) fk8_29 (by decide) gr_83_22 at_83 dX8_addedBy_16 ?_
    refine zo_bipush (v := 8) hC (by decide) dX8_addedBy_19 ?_
    refine zo_aload_n hC dX8_addedBy_21 rfl 0 rfl ?_
    refine zo_iload_n hC dX8_addedBy_22 rfl 1 rfl ?_
    refine zo_bipush (v := 7) hC (by decide) dX8_addedBy_23 ?_
    refine zo_callV_i hC (ci := 8) [.int v1, .int 7] [.int 8, .ref 89] me_X8_logged mlX8_198 im_X8_logged se_X8_logged rfl (by decide) at_83 (fun p hp => T_X8_logged v1 7 I L p hp) (by decide) rfl (Nat.le_of_ble_eq_true rfl) dX8_addedBy_25 rfl (fun r_3 => ?_)
    refine zo_imul hC dX8_addedBy_28 ?_
    refine zo_aload_n hC dX8_addedBy_29 rfl 0 rfl ?_
    refine zo_iload_n hC dX8_addedBy_30 rfl 1 rfl ?_
    refine zo_bipush (v := 6) hC (by decide) dX8_addedBy_31 ?_
    refine zo_callV_i hC (ci := 8) [.int v1, .int 6] [.int ((8 : Int32) * r_3), .ref 89] me_X8_logged mlX8_198 im_X8_logged se_X8_logged rfl (by decide) at_83 (fun p hp => T_X8_logged v1 6 I L p hp) (by decide) rfl (Nat.le_of_ble_eq_true rfl) dX8_addedBy_33 rfl (fun r_4 => ?_)
    refine zo_iadd hC dX8_addedBy_36 ?_
    refine zo_as (fun h_5 => ?_)
    refine zo_lald hC ar_89 (e_ix_vp h_5) dX8_addedBy_37 ?_
    exact Zf_X8_addedBy_38 hC I L v1 (L 89 (((8 : Int32) * r_3) + r_4).toNatClampNeg)
  · refine zo_lconst (v := 0) hC (by decide) dX8_addedBy_11 ?_
    refine zo_goto (tgt := 38) hC dX8_addedBy_12 (by decide) ?_
    exact Zf_X8_addedBy_38 hC I L v1 0

theorem T_X8_addedBy (v1 : Int32) (I : e_I) (L : e_L) (p : Int64) (hp : f_X8_addedBy v1 I L = some p) : Mt yX8_addedBy cX8_addedBy 4 (some .long) 1 gN [.ref 83, .int v1] I L ((ph_l I L) p) := zo_enter hp (by decide) (Nat.le_of_ble_eq_true rfl) (fun X hC => Zf_X8_addedBy hC v1 I L)
def f_X8_added_39 (v1 : Int32) (v2 : Int32) (v3 : Int32) (s0 : Int32) (I : e_I) (L : e_L) : Option (Int64 × e_I × e_L) :=
  e_b1 (f_X8_in v2 1 5) (fun (r_1 : Int32) =>
  e_b1 (f_X8_unless_ s0 r_1) (fun (r_2 : Int32) =>
  e_b2 (f_X8_isRefused r_2 I) (fun (r_3 : Int32) (I_4 : e_I) =>
  if r_3 = 0 then (
    e_b2 (f_X8_laysNow 3 v2 I_4 L) (fun (I_6 : e_I) (L_7 : e_L) =>
    e_b1 (f_X8_addedBy v1 I_6 L_7) (fun (r_8 : Int64) =>
    e_b1 (f_X8_part r_8 (L_7 83 26) v3) (fun (r_9 : Int64) =>
    some (r_9, I_6, L_7)))))
  else (
    some ((-1), I_4, L)))))
set_option maxRecDepth 100000 in
set_option maxHeartbeats 4000000 in
theorem Zf_X8_added_39 {X : e_X} (hC : e_C X cX8_added RX8 4 (some .long) 11 gN) (v1 : Int32) (v2 : Int32) (v3 : Int32) (s0 : Int32) (I : e_I) (L : e_L) : Zo X (ph_lIL) (f_X8_added_39 v1 v2 v3 s0 I L) 39 [(0, .ref 83), (1, .int v1), (2, .int v2), (3, .int v3)] [.int s0, .ref 83] I L := by
  unfold f_X8_added_39
  refine zo_iload_n hC dX8_added_39 rfl 2 rfl ?_
  refine zo_iconst (v := 1) hC (by decide) dX8_added_40 ?_
  refine zo_iconst (v := 5) hC (by decide) dX8_added_41 ?_
  refine zo_callS_i hC [.int v2, .int 1, .int 5] [.int s0, .ref 83] me_X8_in mlX8_83 sm_X8_in (fun p hp => T_X8_in v2 1 5 I L p hp) (by decide) rfl (Nat.le_of_ble_eq_true rfl) dX8_added_42 rfl (fun r_1 => ?_)
  refine zo_callS_i hC [.int s0, .int r_1] [.ref 83] me_X8_unless_ mlX8_158 sm_X8_unless_ (fun p hp => T_X8_unless_ s0 r_1 I L p hp) (by decide) rfl (Nat.le_of_ble_eq_true rfl) dX8_added_45 rfl (fun r_2 => ?_)
  refine zo_callV_iI hC (ci := 8) [.int r_2] [] me_X8_isRefused mlX8_162 im_X8_isRefused se_X8_isRefused rfl (by decide) at_83 (fun p hp => T_X8_isRefused r_2 I L p hp) (by decide) rfl (Nat.le_of_ble_eq_true rfl) dX8_added_48 rfl (fun r_3 I_4 => ?_)
  refine zo_if_eq (tgt := 58) hC dX8_added_51 (by decide) (fun c_5 => ?_) (fun c_5 => ?_)
  · refine zo_aload_n hC dX8_added_58 rfl 0 rfl ?_
    refine zo_iconst (v := 3) hC (by decide) dX8_added_59 ?_
    refine zo_iload_n hC dX8_added_60 rfl 2 rfl ?_
    refine zo_callV_vIL hC (ci := 8) [.int 3, .int v2] [] me_X8_laysNow mlX8_292 im_X8_laysNow se_X8_laysNow rfl (by decide) at_83 (fun p hp => T_X8_laysNow 3 v2 I_4 L p hp) (by decide) rfl (Nat.le_of_ble_eq_true rfl) dX8_added_61 rfl (fun I_6 L_7 => ?_)
    refine zo_aload_n hC dX8_added_64 rfl 0 rfl ?_
    refine zo_iload_n hC dX8_added_65 rfl 1 rfl ?_
    refine zo_callV_l hC (ci := 8) [.int v1] [] me_X8_addedBy mlX8_320 im_X8_addedBy se_X8_addedBy rfl (by decide) at_83 (fun p hp => T_X8_addedBy v1 I_6 L_7 p hp) (by decide) rfl (Nat.le_of_ble_eq_true rfl) dX8_added_66 rfl (fun r_8 => ?_)
    refine zo_aload_n hC dX8_added_69 rfl 0 rfl ?_
    refine zo_getL hC fk8_233 at_83 dX8_added_70 ?_
    refine zo_iload_n hC dX8_added_73 rfl 3 rfl ?_
    refine zo_callS_l hC [.long r_8, .long (L_7 83 26), .int v3] [] me_X8_part mlX8_295 sm_X8_part (fun p hp => T_X8_part r_8 (L_7 83 26) v3 I_6 L_7 p hp) (by decide) rfl (Nat.le_of_ble_eq_true rfl) dX8_added_74 rfl (fun r_9 => ?_)
    exact zo_lret hC rfl dX8_added_77
  · refine zo_ldc2 (v := (-1)) hC clX8_290 dX8_added_54 ?_
    exact zo_lret hC rfl dX8_added_57

def f_X8_added_38 (v1 : Int32) (v2 : Int32) (v3 : Int32) (I : e_I) (L : e_L) : Option (Int64 × e_I × e_L) :=
  f_X8_added_39 v1 v2 v3 0 I L
set_option maxRecDepth 100000 in
set_option maxHeartbeats 4000000 in
theorem Zf_X8_added_38 {X : e_X} (hC : e_C X cX8_added RX8 4 (some .long) 11 gN) (v1 : Int32) (v2 : Int32) (v3 : Int32) (I : e_I) (L : e_L) : Zo X (ph_lIL) (f_X8_added_38 v1 v2 v3 I L) 38 [(0, .ref 83), (1, .int v1), (2, .int v2), (3, .int v3)] [.ref 83] I L := by
  unfold f_X8_added_38
  refine zo_iconst (v := 0) hC (by decide) dX8_added_38 ?_
  exact Zf_X8_added_39 hC v1 v2 v3 0 I L

def f_X8_added (v1 : Int32) (v2 : Int32) (v3 : Int32) (I : e_I) (L : e_L) : Option (Int64 × e_I × e_L) :=
  if (I 83 6) = 0 then (
    f_X8_added_38 v1 v2 v3 I L)
  else (
    e_b1 (f_X8_in v1 0 ((I 85 (75 : Int32).toNatClampNeg) - 1)) (fun (r_2 : Int32) =>
    if r_2 = 0 then (
      f_X8_added_38 v1 v2 v3 I L)
    else (
      e_b1 (f_X8_in v3 0 1) (fun (r_4 : Int32) =>
      if r_4 = 0 then (
        f_X8_added_38 v1 v2 v3 I L)
      else (
        f_X8_added_39 v1 v2 v3 1 I L)))))
set_option maxRecDepth 100000 in
set_option maxHeartbeats 4000000 in
theorem Zf_X8_added {X : e_X} (hC : e_C X cX8_added RX8 4 (some .long) 11 gN) (v1 : Int32) (v2 : Int32) (v3 : Int32) (I : e_I) (L : e_L) : Zo X (ph_lIL) (f_X8_added v1 v2 v3 I L) 0 [(0, .ref 83), (1, .int v1), (2, .int v2), (3, .int v3)] [] I L := by
  unfold f_X8_added
  refine zo_aload_n hC dX8_added_0 rfl 0 rfl ?_
  refine zo_aload_n hC dX8_added_1 rfl 0 rfl ?_
  refine zo_getZ hC fk8_174 at_83 dX8_added_2 ?_
  refine zo_if_eq (tgt := 38) hC dX8_added_5 (by decide) (fun c_1 => ?_) (fun c_1 => ?_)
  · exact Zf_X8_added_38 hC v1 v2 v3 I L
  · refine zo_iload_n hC dX8_added_8 rfl 1 rfl ?_
    refine zo_iconst (v := 0) hC (by decide) dX8_added_9 ?_
    refine zo_aload_n hC dX8_added_10 rfl 0 rfl ?_
    refine zo_getR hC (r := 85) fk8_17 (by decide) gr_83_7 at_83 dX8_added_11 ?_
    refine zo_bipush (v := 75) hC (by decide) dX8_added_14 ?_
    refine zo_iald hC ar_85 (e_ix_vp (by decide)) dX8_added_16 ?_
    refine zo_iconst (v := 1) hC (by decide) dX8_added_17 ?_
    refine zo_isub hC dX8_added_18 ?_
    refine zo_callS_i hC [.int v1, .int 0, .int ((I 85 (75 : Int32).toNatClampNeg) - 1)] [.ref 83] me_X8_in mlX8_83 sm_X8_in (fun p hp => T_X8_in v1 0 ((I 85 (75 : Int32).toNatClampNeg) - 1) I L p hp) (by decide) rfl (Nat.le_of_ble_eq_true rfl) dX8_added_19 rfl (fun r_2 => ?_)
    refine zo_if_eq (tgt := 38) hC dX8_added_22 (by decide) (fun c_3 => ?_) (fun c_3 => ?_)
    · exact Zf_X8_added_38 hC v1 v2 v3 I L
    · refine zo_iload_n hC dX8_added_25 rfl 3 rfl ?_
      refine zo_iconst (v := 0) hC (by decide) dX8_added_26 ?_
      refine zo_iconst (v := 1) hC (by decide) dX8_added_27 ?_
      refine zo_callS_i hC [.int v3, .int 0, .int 1] [.ref 83] me_X8_in mlX8_83 sm_X8_in (fun p hp => T_X8_in v3 0 1 I L p hp) (by decide) rfl (Nat.le_of_ble_eq_true rfl) dX8_added_28 rfl (fun r_4 => ?_)
      refine zo_if_eq (tgt := 38) hC dX8_added_31 (by decide) (fun c_5 => ?_) (fun c_5 => ?_)
      · exact Zf_X8_added_38 hC v1 v2 v3 I L
      · refine zo_iconst (v := 1) hC (by decide) dX8_added_34 ?_
        refine zo_goto (tgt := 39) hC dX8_added_35 (by decide) ?_
        exact Zf_X8_added_39 hC v1 v2 v3 1 I L

theorem T_X8_added (v1 : Int32) (v2 : Int32) (v3 : Int32) (I : e_I) (L : e_L) (p : Int64 × e_I × e_L) (hp : f_X8_added v1 v2 v3 I L = some p) : Mt yX8_added cX8_added 4 (some .long) 11 gN [.ref 83, .int v1, .int v2, .int v3] I L ((ph_lIL) p) := zo_enter hp (by decide) (Nat.le_of_ble_eq_true rfl) (fun X hC => Zf_X8_added hC v1 v2 v3 I L)
def f_X8_addedByAll_52 (v1 : Int32) (v3 : Int32) (k12 : Int64 → Int32 → e_I → e_L → Option (Int64 × e_I × e_L)) (k61 : Int64 → e_I → e_L → Option (Int64 × e_I × e_L)) (v6 : Int32) (s0 : Int64) (s1 : Int64) (I : e_I) (L : e_L) : Option (Int64 × e_I × e_L) :=
  e_let (s1 + s0) (fun (x_1 : Int64) =>
  e_let (v6 + 1) (fun (x_2 : Int32) =>
  k12 x_1 x_2 I L))
set_option maxRecDepth 100000 in
set_option maxHeartbeats 4000000 in
theorem Zf_X8_addedByAll_52 {X : e_X} (hC : e_C X cX8_addedByAll RX8 7 (some .long) 11 gN) (v1 : Int32) (v3 : Int32) (k12 : Int64 → Int32 → e_I → e_L → Option (Int64 × e_I × e_L)) (k61 : Int64 → e_I → e_L → Option (Int64 × e_I × e_L)) (hk12 : ∀ (v4 : Int64) (v6 : Int32) (I : e_I) (L : e_L), Zo X (ph_lIL) (k12 v4 v6 I L) 12 [(0, .ref 83), (1, .int v1), (3, .int v3), (4, .long v4), (6, .int v6)] [] I L) (hk61 : ∀ (v4 : Int64) (I : e_I) (L : e_L), Zo X (ph_lIL) (k61 v4 I L) 61 [(0, .ref 83), (3, .int v3), (4, .long v4)] [] I L) (v6 : Int32) (s0 : Int64) (s1 : Int64) (I : e_I) (L : e_L) : Zo X (ph_lIL) (f_X8_addedByAll_52 v1 v3 k12 k61 v6 s0 s1 I L) 52 [(0, .ref 83), (1, .int v1), (3, .int v3), (6, .int v6)] [.long s0, .long s1] I L := by
  unfold f_X8_addedByAll_52
  refine zo_ladd hC dX8_addedByAll_52 ?_
  refine zo_topl (fun x_1 => ?_)
  refine zo_lstore (lv' := [(4, .long x_1), (0, .ref 83), (1, .int v1), (3, .int v3), (6, .int v6)]) hC dX8_addedByAll_53 (by decide) rfl ?_
  refine zo_iinc hC (x := v6) (fun x_2 => [(6, .int x_2), (4, .long x_1), (0, .ref 83), (1, .int v1), (3, .int v3)]) dX8_addedByAll_55 4 rfl (by rfl) (by decide) (fun _ => rfl) (fun x_2 => ?_)
  refine zo_goto (tgt := 12) hC dX8_addedByAll_58 (by decide) ?_
  refine zo_sub [2, 3, 4, 1, 0] (lv' := [(0, .ref 83), (1, .int v1), (3, .int v3), (4, .long x_1), (6, .int x_2)]) rfl ?_
  exact hk12 x_1 x_2 I L

def f_X8_addedByAll_42 (v1 : Int32) (v3 : Int32) (k12 : Int64 → Int32 → e_I → e_L → Option (Int64 × e_I × e_L)) (k61 : Int64 → e_I → e_L → Option (Int64 × e_I × e_L)) (v6 : Int32) (s0 : Int64) (I : e_I) (L : e_L) : Option (Int64 × e_I × e_L) :=
  e_b1 (f_X8_addedBy v6 I L) (fun (r_1 : Int64) =>
  f_X8_addedByAll_52 v1 v3 k12 k61 v6 r_1 s0 I L)
set_option maxRecDepth 100000 in
set_option maxHeartbeats 4000000 in
theorem Zf_X8_addedByAll_42 {X : e_X} (hC : e_C X cX8_addedByAll RX8 7 (some .long) 11 gN) (v1 : Int32) (v3 : Int32) (k12 : Int64 → Int32 → e_I → e_L → Option (Int64 × e_I × e_L)) (k61 : Int64 → e_I → e_L → Option (Int64 × e_I × e_L)) (hk12 : ∀ (v4 : Int64) (v6 : Int32) (I : e_I) (L : e_L), Zo X (ph_lIL) (k12 v4 v6 I L) 12 [(0, .ref 83), (1, .int v1), (3, .int v3), (4, .long v4), (6, .int v6)] [] I L) (hk61 : ∀ (v4 : Int64) (I : e_I) (L : e_L), Zo X (ph_lIL) (k61 v4 I L) 61 [(0, .ref 83), (3, .int v3), (4, .long v4)] [] I L) (v6 : Int32) (s0 : Int64) (I : e_I) (L : e_L) : Zo X (ph_lIL) (f_X8_addedByAll_42 v1 v3 k12 k61 v6 s0 I L) 42 [(0, .ref 83), (1, .int v1), (3, .int v3), (6, .int v6)] [.long s0] I L := by
  unfold f_X8_addedByAll_42
  refine zo_aload_n hC dX8_addedByAll_42 rfl 0 rfl ?_
  refine zo_iload hC dX8_addedByAll_43 3 rfl ?_
  refine zo_callV_l hC (ci := 8) [.int v6] [.long s0] me_X8_addedBy mlX8_320 im_X8_addedBy se_X8_addedBy rfl (by decide) at_83 (fun p hp => T_X8_addedBy v6 I L p hp) (by decide) rfl (Nat.le_of_ble_eq_true rfl) dX8_addedByAll_45 rfl (fun r_1 => ?_)
  refine zo_goto (tgt := 52) hC dX8_addedByAll_48 (by decide) ?_
  exact Zf_X8_addedByAll_52 hC v1 v3 k12 k61 hk12 hk61 v6 r_1 s0 I L

def f_X8_addedByAll_12 (v1 : Int32) (v3 : Int32) (k61 : Int64 → e_I → e_L → Option (Int64 × e_I × e_L)) : Nat → Int64 → Int32 → e_I → e_L → Option (Int64 × e_I × e_L)
  | 0, _, _, _, _ => none
  | n + 1, v4, v6, I, L =>
    if v6 ≥ (I 85 (75 : Int32).toNatClampNeg) then (
      k61 v4 I L)
    else (
      if v1 = (-1) then (
        f_X8_addedByAll_42 v1 v3 (fun v4 v6 I L => f_X8_addedByAll_12 v1 v3 k61 n v4 v6 I L) k61 v6 v4 I L)
      else (
        e_b1 (f_X8_logged v6 0 I) (fun (r_3 : Int32) =>
        if r_3 ≠ v1 then (
          f_X8_addedByAll_52 v1 v3 (fun v4 v6 I L => f_X8_addedByAll_12 v1 v3 k61 n v4 v6 I L) k61 v6 0 v4 I L)
        else (
          f_X8_addedByAll_42 v1 v3 (fun v4 v6 I L => f_X8_addedByAll_12 v1 v3 k61 n v4 v6 I L) k61 v6 v4 I L))))
set_option maxRecDepth 100000 in
set_option maxHeartbeats 4000000 in
theorem Zf_X8_addedByAll_12 {X : e_X} (hC : e_C X cX8_addedByAll RX8 7 (some .long) 11 gN) (v1 : Int32) (v3 : Int32) (k61 : Int64 → e_I → e_L → Option (Int64 × e_I × e_L)) (hk61 : ∀ (v4 : Int64) (I : e_I) (L : e_L), Zo X (ph_lIL) (k61 v4 I L) 61 [(0, .ref 83), (3, .int v3), (4, .long v4)] [] I L) : ∀ (n : Nat) (v4 : Int64) (v6 : Int32) (I : e_I) (L : e_L), Zo X (ph_lIL) (f_X8_addedByAll_12 v1 v3 k61 n v4 v6 I L) 12 [(0, .ref 83), (1, .int v1), (3, .int v3), (4, .long v4), (6, .int v6)] [] I L := by
  intro n
  induction n with
  | zero => intro v4 v6 I L p hp; cases hp
  | succ n ih =>
    intro v4 v6 I L
    unfold f_X8_addedByAll_12
    refine zo_iload hC dX8_addedByAll_12 4 rfl ?_
    refine zo_aload_n hC dX8_addedByAll_14 rfl 0 rfl ?_
    refine zo_getR hC (r := 85) fk8_17 (by decide) gr_83_7 at_83 dX8_addedByAll_15 ?_
    refine zo_bipush (v := 75) hC (by decide) dX8_addedByAll_18 ?_
    refine zo_iald hC ar_85 (e_ix_vp (by decide)) dX8_addedByAll_20 ?_
    refine zo_icmp_ge (tgt := 61) hC dX8_addedByAll_21 (by decide) (fun c_1 => ?_) (fun c_1 => ?_)
    · refine zo_sub [0, 2, 3] (lv' := [(0, .ref 83), (3, .int v3), (4, .long v4)]) rfl ?_
      exact hk61 v4 I L
    · refine zo_lload hC dX8_addedByAll_24 3 rfl ?_
      refine zo_iload_n hC dX8_addedByAll_26 rfl 1 rfl ?_
      refine zo_iconst (v := (-1)) hC (by decide) dX8_addedByAll_27 ?_
      refine zo_icmp_eq (tgt := 42) hC dX8_addedByAll_28 (by decide) (fun c_2 => ?_) (fun c_2 => ?_)
      · refine zo_sub [0, 1, 2, 4] (lv' := [(0, .ref 83), (1, .int v1), (3, .int v3), (6, .int v6)]) rfl ?_
        exact Zf_X8_addedByAll_42 hC v1 v3 (fun v4 v6 I L => f_X8_addedByAll_12 v1 v3 k61 n v4 v6 I L) k61 (fun v4 v6 I L => ih v4 v6 I L) hk61 v6 v4 I L
      · refine zo_aload_n hC dX8_addedByAll_31 rfl 0 rfl ?_
        refine zo_iload hC dX8_addedByAll_32 4 rfl ?_
        refine zo_iconst (v := 0) hC (by decide) dX8_addedByAll_34 ?_
        refine zo_callV_i hC (ci := 8) [.int v6, .int 0] [.long v4] me_X8_logged mlX8_198 im_X8_logged se_X8_logged rfl (by decide) at_83 (fun p hp => T_X8_logged v6 0 I L p hp) (by decide) rfl (Nat.le_of_ble_eq_true rfl) dX8_addedByAll_35 rfl (fun r_3 => ?_)
        refine zo_iload_n hC dX8_addedByAll_38 rfl 1 rfl ?_
        refine zo_icmp_ne (tgt := 51) hC dX8_addedByAll_39 (by decide) (fun c_4 => ?_) (fun c_4 => ?_)
        · refine zo_lconst (v := 0) hC (by decide) dX8_addedByAll_51 ?_
          refine zo_sub [0, 1, 2, 4] (lv' := [(0, .ref 83), (1, .int v1), (3, .int v3), (6, .int v6)]) rfl ?_
          exact Zf_X8_addedByAll_52 hC v1 v3 (fun v4 v6 I L => f_X8_addedByAll_12 v1 v3 k61 n v4 v6 I L) k61 (fun v4 v6 I L => ih v4 v6 I L) hk61 v6 0 v4 I L
        · refine zo_sub [0, 1, 2, 4] (lv' := [(0, .ref 83), (1, .int v1), (3, .int v3), (6, .int v6)]) rfl ?_
          exact Zf_X8_addedByAll_42 hC v1 v3 (fun v4 v6 I L => f_X8_addedByAll_12 v1 v3 k61 n v4 v6 I L) k61 (fun v4 v6 I L => ih v4 v6 I L) hk61 v6 v4 I L

def f_X8_addedByAll (v1 : Int32) (v2 : Int32) (v3 : Int32) (I : e_I) (L : e_L) : Option (Int64 × e_I × e_L) :=
  e_b2 (f_X8_laysNow 3 v2 I L) (fun (I_1 : e_I) (L_2 : e_L) =>
  f_X8_addedByAll_12 v1 v3 (fun (v4_3 : Int64) (I_4 : e_I) (L_5 : e_L) =>
    e_b1 (f_X8_part v4_3 (L_5 83 26) v3) (fun (r_6 : Int64) =>
    some (r_6, I_4, L_5))) e_FU 0 0 I_1 L_2)
set_option maxRecDepth 100000 in
set_option maxHeartbeats 4000000 in
theorem Zf_X8_addedByAll {X : e_X} (hC : e_C X cX8_addedByAll RX8 7 (some .long) 11 gN) (v1 : Int32) (v2 : Int32) (v3 : Int32) (I : e_I) (L : e_L) : Zo X (ph_lIL) (f_X8_addedByAll v1 v2 v3 I L) 0 [(0, .ref 83), (1, .int v1), (2, .int v2), (3, .int v3)] [] I L := by
  unfold f_X8_addedByAll
  refine zo_aload_n hC dX8_addedByAll_0 rfl 0 rfl ?_
  refine zo_iconst (v := 3) hC (by decide) dX8_addedByAll_1 ?_
  refine zo_iload_n hC dX8_addedByAll_2 rfl 2 rfl ?_
  refine zo_callV_vIL hC (ci := 8) [.int 3, .int v2] [] me_X8_laysNow mlX8_292 im_X8_laysNow se_X8_laysNow rfl (by decide) at_83 (fun p hp => T_X8_laysNow 3 v2 I L p hp) (by decide) rfl (Nat.le_of_ble_eq_true rfl) dX8_addedByAll_3 rfl (fun I_1 L_2 => ?_)
  refine zo_lconst (v := 0) hC (by decide) dX8_addedByAll_6 ?_
  refine zo_lstore (lv' := [(4, .long 0), (0, .ref 83), (1, .int v1), (2, .int v2), (3, .int v3)]) hC dX8_addedByAll_7 (by decide) rfl ?_
  refine zo_iconst (v := 0) hC (by decide) dX8_addedByAll_9 ?_
  refine zo_istore (lv' := [(6, .int 0), (4, .long 0), (0, .ref 83), (1, .int v1), (2, .int v2), (3, .int v3)]) hC dX8_addedByAll_10 (by decide) rfl ?_
  refine zo_sub [2, 3, 5, 1, 0] (lv' := [(0, .ref 83), (1, .int v1), (3, .int v3), (4, .long 0), (6, .int 0)]) rfl ?_
  refine Zf_X8_addedByAll_12 hC v1 v3 _ (fun v4_3 I_4 L_5 => ?_) e_FU 0 0 I_1 L_2
  · refine zo_lload hC dX8_addedByAll_61 2 rfl ?_
    refine zo_aload_n hC dX8_addedByAll_63 rfl 0 rfl ?_
    refine zo_getL hC fk8_233 at_83 dX8_addedByAll_64 ?_
    refine zo_iload_n hC dX8_addedByAll_67 rfl 1 rfl ?_
    refine zo_callS_l hC [.long v4_3, .long (L_5 83 26), .int v3] [] me_X8_part mlX8_295 sm_X8_part (fun p hp => T_X8_part v4_3 (L_5 83 26) v3 I_4 L_5 p hp) (by decide) rfl (Nat.le_of_ble_eq_true rfl) dX8_addedByAll_68 rfl (fun r_6 => ?_)
    exact zo_lret hC rfl dX8_addedByAll_71

theorem T_X8_addedByAll (v1 : Int32) (v2 : Int32) (v3 : Int32) (I : e_I) (L : e_L) (p : Int64 × e_I × e_L) (hp : f_X8_addedByAll v1 v2 v3 I L = some p) : Mt yX8_addedByAll cX8_addedByAll 7 (some .long) 11 gN [.ref 83, .int v1, .int v2, .int v3] I L ((ph_lIL) p) := zo_enter hp (by decide) (Nat.le_of_ble_eq_true rfl) (fun X hC => Zf_X8_addedByAll hC v1 v2 v3 I L)
def f_X8_credit_51 (s0 : Int64) (I : e_I) (L : e_L) : Option (Int64 × e_I × e_L) :=
  some (s0, I, L)
set_option maxRecDepth 100000 in
set_option maxHeartbeats 4000000 in
theorem Zf_X8_credit_51 {X : e_X} (hC : e_C X cX8_credit RX8 4 (some .long) 12 gN) (s0 : Int64) (I : e_I) (L : e_L) : Zo X (ph_lIL) (f_X8_credit_51 s0 I L) 51 [] [.long s0] I L := by
  unfold f_X8_credit_51
  exact zo_lret hC rfl dX8_credit_51

def f_X8_credit_23 (v1 : Int32) (v2 : Int32) (v3 : Int32) (s0 : Int32) (I : e_I) (L : e_L) : Option (Int64 × e_I × e_L) :=
  e_b1 (f_X8_in v2 1 5) (fun (r_1 : Int32) =>
  e_b1 (f_X8_unless_ s0 r_1) (fun (r_2 : Int32) =>
  e_b2 (f_X8_isRefused r_2 I) (fun (r_3 : Int32) (I_4 : e_I) =>
  if r_3 = 0 then (
    e_b3 (f_X8_addedByAll v1 v2 v3 I_4 L) (fun (r_6 : Int64) (I_7 : e_I) (L_8 : e_L) =>
    f_X8_credit_51 r_6 I_7 L_8))
  else (
    f_X8_credit_51 (-1) I_4 L))))
set_option maxRecDepth 100000 in
set_option maxHeartbeats 4000000 in
theorem Zf_X8_credit_23 {X : e_X} (hC : e_C X cX8_credit RX8 4 (some .long) 12 gN) (v1 : Int32) (v2 : Int32) (v3 : Int32) (s0 : Int32) (I : e_I) (L : e_L) : Zo X (ph_lIL) (f_X8_credit_23 v1 v2 v3 s0 I L) 23 [(0, .ref 83), (1, .int v1), (2, .int v2), (3, .int v3)] [.int s0, .ref 83] I L := by
  unfold f_X8_credit_23
  refine zo_iload_n hC dX8_credit_23 rfl 2 rfl ?_
  refine zo_iconst (v := 1) hC (by decide) dX8_credit_24 ?_
  refine zo_iconst (v := 5) hC (by decide) dX8_credit_25 ?_
  refine zo_callS_i hC [.int v2, .int 1, .int 5] [.int s0, .ref 83] me_X8_in mlX8_83 sm_X8_in (fun p hp => T_X8_in v2 1 5 I L p hp) (by decide) rfl (Nat.le_of_ble_eq_true rfl) dX8_credit_26 rfl (fun r_1 => ?_)
  refine zo_callS_i hC [.int s0, .int r_1] [.ref 83] me_X8_unless_ mlX8_158 sm_X8_unless_ (fun p hp => T_X8_unless_ s0 r_1 I L p hp) (by decide) rfl (Nat.le_of_ble_eq_true rfl) dX8_credit_29 rfl (fun r_2 => ?_)
  refine zo_callV_iI hC (ci := 8) [.int r_2] [] me_X8_isRefused mlX8_162 im_X8_isRefused se_X8_isRefused rfl (by decide) at_83 (fun p hp => T_X8_isRefused r_2 I L p hp) (by decide) rfl (Nat.le_of_ble_eq_true rfl) dX8_credit_32 rfl (fun r_3 I_4 => ?_)
  refine zo_if_eq (tgt := 44) hC dX8_credit_35 (by decide) (fun c_5 => ?_) (fun c_5 => ?_)
  · refine zo_aload_n hC dX8_credit_44 rfl 0 rfl ?_
    refine zo_iload_n hC dX8_credit_45 rfl 1 rfl ?_
    refine zo_iload_n hC dX8_credit_46 rfl 2 rfl ?_
    refine zo_iload_n hC dX8_credit_47 rfl 3 rfl ?_
    refine zo_callV_lIL hC (ci := 8) [.int v1, .int v2, .int v3] [] me_X8_addedByAll mlX8_323 im_X8_addedByAll se_X8_addedByAll rfl (by decide) at_83 (fun p hp => T_X8_addedByAll v1 v2 v3 I_4 L p hp) (by decide) rfl (Nat.le_of_ble_eq_true rfl) dX8_credit_48 rfl (fun r_6 I_7 L_8 => ?_)
    refine zo_sub [] (lv' := []) rfl ?_
    exact Zf_X8_credit_51 hC r_6 I_7 L_8
  · refine zo_ldc2 (v := (-1)) hC clX8_290 dX8_credit_38 ?_
    refine zo_goto (tgt := 51) hC dX8_credit_41 (by decide) ?_
    refine zo_sub [] (lv' := []) rfl ?_
    exact Zf_X8_credit_51 hC (-1) I_4 L

def f_X8_credit_22 (v1 : Int32) (v2 : Int32) (v3 : Int32) (I : e_I) (L : e_L) : Option (Int64 × e_I × e_L) :=
  f_X8_credit_23 v1 v2 v3 0 I L
set_option maxRecDepth 100000 in
set_option maxHeartbeats 4000000 in
theorem Zf_X8_credit_22 {X : e_X} (hC : e_C X cX8_credit RX8 4 (some .long) 12 gN) (v1 : Int32) (v2 : Int32) (v3 : Int32) (I : e_I) (L : e_L) : Zo X (ph_lIL) (f_X8_credit_22 v1 v2 v3 I L) 22 [(0, .ref 83), (1, .int v1), (2, .int v2), (3, .int v3)] [.ref 83] I L := by
  unfold f_X8_credit_22
  refine zo_iconst (v := 0) hC (by decide) dX8_credit_22 ?_
  exact Zf_X8_credit_23 hC v1 v2 v3 0 I L

def f_X8_credit (v1 : Int32) (v2 : Int32) (v3 : Int32) (I : e_I) (L : e_L) : Option (Int64 × e_I × e_L) :=
  e_b1 (f_X8_isBatter v1 I) (fun (r_1 : Int32) =>
  if r_1 = 0 then (
    f_X8_credit_22 v1 v2 v3 I L)
  else (
    e_b1 (f_X8_in v3 0 1) (fun (r_3 : Int32) =>
    if r_3 = 0 then (
      f_X8_credit_22 v1 v2 v3 I L)
    else (
      f_X8_credit_23 v1 v2 v3 1 I L))))
set_option maxRecDepth 100000 in
set_option maxHeartbeats 4000000 in
theorem Zf_X8_credit {X : e_X} (hC : e_C X cX8_credit RX8 4 (some .long) 12 gN) (v1 : Int32) (v2 : Int32) (v3 : Int32) (I : e_I) (L : e_L) : Zo X (ph_lIL) (f_X8_credit v1 v2 v3 I L) 0 [(0, .ref 83), (1, .int v1), (2, .int v2), (3, .int v3)] [] I L := by
  unfold f_X8_credit
  refine zo_aload_n hC dX8_credit_0 rfl 0 rfl ?_
  refine zo_aload_n hC dX8_credit_1 rfl 0 rfl ?_
  refine zo_iload_n hC dX8_credit_2 rfl 1 rfl ?_
  refine zo_callV_i hC (ci := 8) [.int v1] [.ref 83] me_X8_isBatter mlX8_192 im_X8_isBatter se_X8_isBatter rfl (by decide) at_83 (fun p hp => T_X8_isBatter v1 I L p hp) (by decide) rfl (Nat.le_of_ble_eq_true rfl) dX8_credit_3 rfl (fun r_1 => ?_)
  refine zo_if_eq (tgt := 22) hC dX8_credit_6 (by decide) (fun c_2 => ?_) (fun c_2 => ?_)
  · exact Zf_X8_credit_22 hC v1 v2 v3 I L
  · refine zo_iload_n hC dX8_credit_9 rfl 3 rfl ?_
    refine zo_iconst (v := 0) hC (by decide) dX8_credit_10 ?_
    refine zo_iconst (v := 1) hC (by decide) dX8_credit_11 ?_
    refine zo_callS_i hC [.int v3, .int 0, .int 1] [.ref 83] me_X8_in mlX8_83 sm_X8_in (fun p hp => T_X8_in v3 0 1 I L p hp) (by decide) rfl (Nat.le_of_ble_eq_true rfl) dX8_credit_12 rfl (fun r_3 => ?_)
    refine zo_if_eq (tgt := 22) hC dX8_credit_15 (by decide) (fun c_4 => ?_) (fun c_4 => ?_)
    · exact Zf_X8_credit_22 hC v1 v2 v3 I L
    · refine zo_iconst (v := 1) hC (by decide) dX8_credit_18 ?_
      refine zo_goto (tgt := 23) hC dX8_credit_19 (by decide) ?_
      exact Zf_X8_credit_23 hC v1 v2 v3 1 I L

theorem T_X8_credit (v1 : Int32) (v2 : Int32) (v3 : Int32) (I : e_I) (L : e_L) (p : Int64 × e_I × e_L) (hp : f_X8_credit v1 v2 v3 I L = some p) : Mt yX8_credit cX8_credit 4 (some .long) 12 gN [.ref 83, .int v1, .int v2, .int v3] I L ((ph_lIL) p) := zo_enter hp (by decide) (Nat.le_of_ble_eq_true rfl) (fun X hC => Zf_X8_credit hC v1 v2 v3 I L)
def f_X8_all_50 (s0 : Int64) (I : e_I) (L : e_L) : Option (Int64 × e_I × e_L) :=
  some (s0, I, L)
set_option maxRecDepth 100000 in
set_option maxHeartbeats 4000000 in
theorem Zf_X8_all_50 {X : e_X} (hC : e_C X cX8_all RX8 3 (some .long) 12 gN) (s0 : Int64) (I : e_I) (L : e_L) : Zo X (ph_lIL) (f_X8_all_50 s0 I L) 50 [] [.long s0] I L := by
  unfold f_X8_all_50
  exact zo_lret hC rfl dX8_all_50

def f_X8_all_22 (v1 : Int32) (v2 : Int32) (s0 : Int32) (I : e_I) (L : e_L) : Option (Int64 × e_I × e_L) :=
  e_b1 (f_X8_in v1 1 5) (fun (r_1 : Int32) =>
  e_b1 (f_X8_unless_ s0 r_1) (fun (r_2 : Int32) =>
  e_b2 (f_X8_isRefused r_2 I) (fun (r_3 : Int32) (I_4 : e_I) =>
  if r_3 = 0 then (
    e_b3 (f_X8_addedByAll (-1) v1 v2 I_4 L) (fun (r_6 : Int64) (I_7 : e_I) (L_8 : e_L) =>
    f_X8_all_50 r_6 I_7 L_8))
  else (
    f_X8_all_50 (-1) I_4 L))))
set_option maxRecDepth 100000 in
set_option maxHeartbeats 4000000 in
theorem Zf_X8_all_22 {X : e_X} (hC : e_C X cX8_all RX8 3 (some .long) 12 gN) (v1 : Int32) (v2 : Int32) (s0 : Int32) (I : e_I) (L : e_L) : Zo X (ph_lIL) (f_X8_all_22 v1 v2 s0 I L) 22 [(0, .ref 83), (1, .int v1), (2, .int v2)] [.int s0, .ref 83] I L := by
  unfold f_X8_all_22
  refine zo_iload_n hC dX8_all_22 rfl 1 rfl ?_
  refine zo_iconst (v := 1) hC (by decide) dX8_all_23 ?_
  refine zo_iconst (v := 5) hC (by decide) dX8_all_24 ?_
  refine zo_callS_i hC [.int v1, .int 1, .int 5] [.int s0, .ref 83] me_X8_in mlX8_83 sm_X8_in (fun p hp => T_X8_in v1 1 5 I L p hp) (by decide) rfl (Nat.le_of_ble_eq_true rfl) dX8_all_25 rfl (fun r_1 => ?_)
  refine zo_callS_i hC [.int s0, .int r_1] [.ref 83] me_X8_unless_ mlX8_158 sm_X8_unless_ (fun p hp => T_X8_unless_ s0 r_1 I L p hp) (by decide) rfl (Nat.le_of_ble_eq_true rfl) dX8_all_28 rfl (fun r_2 => ?_)
  refine zo_callV_iI hC (ci := 8) [.int r_2] [] me_X8_isRefused mlX8_162 im_X8_isRefused se_X8_isRefused rfl (by decide) at_83 (fun p hp => T_X8_isRefused r_2 I L p hp) (by decide) rfl (Nat.le_of_ble_eq_true rfl) dX8_all_31 rfl (fun r_3 I_4 => ?_)
  refine zo_if_eq (tgt := 43) hC dX8_all_34 (by decide) (fun c_5 => ?_) (fun c_5 => ?_)
  · refine zo_aload_n hC dX8_all_43 rfl 0 rfl ?_
    refine zo_iconst (v := (-1)) hC (by decide) dX8_all_44 ?_
    refine zo_iload_n hC dX8_all_45 rfl 1 rfl ?_
    refine zo_iload_n hC dX8_all_46 rfl 2 rfl ?_
    refine zo_callV_lIL hC (ci := 8) [.int (-1), .int v1, .int v2] [] me_X8_addedByAll mlX8_323 im_X8_addedByAll se_X8_addedByAll rfl (by decide) at_83 (fun p hp => T_X8_addedByAll (-1) v1 v2 I_4 L p hp) (by decide) rfl (Nat.le_of_ble_eq_true rfl) dX8_all_47 rfl (fun r_6 I_7 L_8 => ?_)
    refine zo_sub [] (lv' := []) rfl ?_
    exact Zf_X8_all_50 hC r_6 I_7 L_8
  · refine zo_ldc2 (v := (-1)) hC clX8_290 dX8_all_37 ?_
    refine zo_goto (tgt := 50) hC dX8_all_40 (by decide) ?_
    refine zo_sub [] (lv' := []) rfl ?_
    exact Zf_X8_all_50 hC (-1) I_4 L

def f_X8_all_21 (v1 : Int32) (v2 : Int32) (I : e_I) (L : e_L) : Option (Int64 × e_I × e_L) :=
  f_X8_all_22 v1 v2 0 I L
set_option maxRecDepth 100000 in
set_option maxHeartbeats 4000000 in
theorem Zf_X8_all_21 {X : e_X} (hC : e_C X cX8_all RX8 3 (some .long) 12 gN) (v1 : Int32) (v2 : Int32) (I : e_I) (L : e_L) : Zo X (ph_lIL) (f_X8_all_21 v1 v2 I L) 21 [(0, .ref 83), (1, .int v1), (2, .int v2)] [.ref 83] I L := by
  unfold f_X8_all_21
  refine zo_iconst (v := 0) hC (by decide) dX8_all_21 ?_
  exact Zf_X8_all_22 hC v1 v2 0 I L

def f_X8_all (v1 : Int32) (v2 : Int32) (I : e_I) (L : e_L) : Option (Int64 × e_I × e_L) :=
  if (I 83 6) = 0 then (
    f_X8_all_21 v1 v2 I L)
  else (
    e_b1 (f_X8_in v2 0 1) (fun (r_2 : Int32) =>
    if r_2 = 0 then (
      f_X8_all_21 v1 v2 I L)
    else (
      f_X8_all_22 v1 v2 1 I L)))
set_option maxRecDepth 100000 in
set_option maxHeartbeats 4000000 in
theorem Zf_X8_all {X : e_X} (hC : e_C X cX8_all RX8 3 (some .long) 12 gN) (v1 : Int32) (v2 : Int32) (I : e_I) (L : e_L) : Zo X (ph_lIL) (f_X8_all v1 v2 I L) 0 [(0, .ref 83), (1, .int v1), (2, .int v2)] [] I L := by
  unfold f_X8_all
  refine zo_aload_n hC dX8_all_0 rfl 0 rfl ?_
  refine zo_aload_n hC dX8_all_1 rfl 0 rfl ?_
  refine zo_getZ hC fk8_174 at_83 dX8_all_2 ?_
  refine zo_if_eq (tgt := 21) hC dX8_all_5 (by decide) (fun c_1 => ?_) (fun c_1 => ?_)
  · exact Zf_X8_all_21 hC v1 v2 I L
  · refine zo_iload_n hC dX8_all_8 rfl 2 rfl ?_
    refine zo_iconst (v := 0) hC (by decide) dX8_all_9 ?_
    refine zo_iconst (v := 1) hC (by decide) dX8_all_10 ?_
    refine zo_callS_i hC [.int v2, .int 0, .int 1] [.ref 83] me_X8_in mlX8_83 sm_X8_in (fun p hp => T_X8_in v2 0 1 I L p hp) (by decide) rfl (Nat.le_of_ble_eq_true rfl) dX8_all_11 rfl (fun r_2 => ?_)
    refine zo_if_eq (tgt := 21) hC dX8_all_14 (by decide) (fun c_3 => ?_) (fun c_3 => ?_)
    · exact Zf_X8_all_21 hC v1 v2 I L
    · refine zo_iconst (v := 1) hC (by decide) dX8_all_17 ?_
      refine zo_goto (tgt := 22) hC dX8_all_18 (by decide) ?_
      exact Zf_X8_all_22 hC v1 v2 1 I L

theorem T_X8_all (v1 : Int32) (v2 : Int32) (I : e_I) (L : e_L) (p : Int64 × e_I × e_L) (hp : f_X8_all v1 v2 I L = some p) : Mt yX8_all cX8_all 3 (some .long) 12 gN [.ref 83, .int v1, .int v2] I L ((ph_lIL) p) := zo_enter hp (by decide) (Nat.le_of_ble_eq_true rfl) (fun X hC => Zf_X8_all hC v1 v2 I L)
def f_X8_logs_14 (v1 : Int32) (k45 : e_I → Option (e_I)) : Nat → Int32 → e_I → Option (e_I)
  | 0, _, _ => none
  | n + 1, v2, I =>
    if v2 ≥ 312 then (
      k45 I)
    else (
      e_as (e_ix ((84 : Int32) + v2) 396 = true) (
      e_as (e_ix ((76 : Int32) + v2) 396 = true) (
      e_let (e_ui I 85 ((76 : Int32) + v2).toNatClampNeg (I 85 ((84 : Int32) + v2).toNatClampNeg)) (fun (I_4 : e_I) =>
      e_let (v2 + 1) (fun (x_5 : Int32) =>
      f_X8_logs_14 v1 k45 n x_5 I_4)))))
set_option maxRecDepth 100000 in
set_option maxHeartbeats 4000000 in
theorem Zf_X8_logs_14 {X : e_X} (hC : e_C X cX8_logs RX8 3 none 0 gN) (L : e_L) (v1 : Int32) (k45 : e_I → Option (e_I)) (hk45 : ∀ (I : e_I), Zo X (ph_vI L) (k45 I) 45 [(0, .ref 83), (1, .int v1)] [] I L) : ∀ (n : Nat) (v2 : Int32) (I : e_I), Zo X (ph_vI L) (f_X8_logs_14 v1 k45 n v2 I) 14 [(0, .ref 83), (1, .int v1), (2, .int v2)] [] I L := by
  intro n
  induction n with
  | zero => intro v2 I p hp; cases hp
  | succ n ih =>
    intro v2 I
    unfold f_X8_logs_14
    refine zo_iload_n hC dX8_logs_14 rfl 2 rfl ?_
    refine zo_sipush (v := 312) hC (by decide) dX8_logs_15 ?_
    refine zo_icmp_ge (tgt := 45) hC dX8_logs_18 (by decide) (fun c_1 => ?_) (fun c_1 => ?_)
    · refine zo_sub [0, 1] (lv' := [(0, .ref 83), (1, .int v1)]) rfl ?_
      exact hk45 I
    · refine zo_aload_n hC dX8_logs_21 rfl 0 rfl ?_
      refine zo_getR hC (r := 85) fk8_17 (by decide) gr_83_7 at_83 dX8_logs_22 ?_
      refine zo_bipush (v := 76) hC (by decide) dX8_logs_25 ?_
      refine zo_iload_n hC dX8_logs_27 rfl 2 rfl ?_
      refine zo_iadd hC dX8_logs_28 ?_
      refine zo_aload_n hC dX8_logs_29 rfl 0 rfl ?_
      refine zo_getR hC (r := 85) fk8_17 (by decide) gr_83_7 at_83 dX8_logs_30 ?_
      refine zo_bipush (v := 84) hC (by decide) dX8_logs_33 ?_
      refine zo_iload_n hC dX8_logs_35 rfl 2 rfl ?_
      refine zo_iadd hC dX8_logs_36 ?_
      refine zo_as (fun h_2 => ?_)
      refine zo_iald hC ar_85 (e_ix_vp h_2) dX8_logs_37 ?_
      refine zo_as (fun h_3 => ?_)
      refine zo_iast hC ar_85 (e_ix_vp h_3) dX8_logs_38 ?_
      refine zo_topI (fun I_4 => ?_)
      refine zo_iinc hC (x := v2) (fun x_5 => [(2, .int x_5), (0, .ref 83), (1, .int v1)]) dX8_logs_39 2 rfl (by rfl) (by decide) (fun _ => rfl) (fun x_5 => ?_)
      refine zo_goto (tgt := 14) hC dX8_logs_42 (by decide) ?_
      refine zo_sub [1, 2, 0] (lv' := [(0, .ref 83), (1, .int v1), (2, .int x_5)]) rfl ?_
      exact ih x_5 I_4

def f_X8_logs_56 (v1 : Int32) (I : e_I) : Option (e_I) :=
  e_let ((76 : Int32) + ((8 : Int32) * (I 85 (75 : Int32).toNatClampNeg))) (fun (x_1 : Int32) =>
  e_as (e_ix x_1 396 = true) (
  e_let (e_ui I 85 x_1.toNatClampNeg (I 85 (72 : Int32).toNatClampNeg)) (fun (I_3 : e_I) =>
  e_as (e_ix (x_1 + 1) 396 = true) (
  e_let (e_ui I_3 85 (x_1 + 1).toNatClampNeg v1) (fun (I_5 : e_I) =>
  e_as (e_ix (x_1 + 2) 396 = true) (
  e_let (e_ui I_5 85 (x_1 + 2).toNatClampNeg (I_5 83 21)) (fun (I_7 : e_I) =>
  e_as (e_ix (x_1 + 3) 396 = true) (
  e_let (e_ui I_7 85 (x_1 + 3).toNatClampNeg (I_7 85 (69 : Int32).toNatClampNeg)) (fun (I_9 : e_I) =>
  e_as (e_ix (x_1 + 4) 396 = true) (
  e_let (e_ui I_9 85 (x_1 + 4).toNatClampNeg (I_9 85 (70 : Int32).toNatClampNeg)) (fun (I_11 : e_I) =>
  e_as (e_ix (x_1 + 5) 396 = true) (
  e_let (e_ui I_11 85 (x_1 + 5).toNatClampNeg (I_11 85 (71 : Int32).toNatClampNeg)) (fun (I_13 : e_I) =>
  e_as (e_ix (x_1 + 6) 396 = true) (
  e_let (e_ui I_13 85 (x_1 + 6).toNatClampNeg (I_13 83 19)) (fun (I_15 : e_I) =>
  e_as (e_ix (x_1 + 7) 396 = true) (
  e_let (e_ui I_15 85 (x_1 + 7).toNatClampNeg (I_15 83 20)) (fun (I_17 : e_I) =>
  e_let (e_ui I_17 85 (75 : Int32).toNatClampNeg ((I_17 85 (75 : Int32).toNatClampNeg) + 1)) (fun (I_18 : e_I) =>
  some I_18))))))))))))))))))
set_option maxRecDepth 100000 in
set_option maxHeartbeats 4000000 in
theorem Zf_X8_logs_56 {X : e_X} (hC : e_C X cX8_logs RX8 3 none 0 gN) (L : e_L) (v1 : Int32) (I : e_I) : Zo X (ph_vI L) (f_X8_logs_56 v1 I) 56 [(0, .ref 83), (1, .int v1)] [] I L := by
  unfold f_X8_logs_56
  refine zo_bipush (v := 76) hC (by decide) dX8_logs_56 ?_
  refine zo_bipush (v := 8) hC (by decide) dX8_logs_58 ?_
  refine zo_aload_n hC dX8_logs_60 rfl 0 rfl ?_
  refine zo_getR hC (r := 85) fk8_17 (by decide) gr_83_7 at_83 dX8_logs_61 ?_
  refine zo_bipush (v := 75) hC (by decide) dX8_logs_64 ?_
  refine zo_iald hC ar_85 (e_ix_vp (by decide)) dX8_logs_66 ?_
  refine zo_imul hC dX8_logs_67 ?_
  refine zo_iadd hC dX8_logs_68 ?_
  refine zo_topi (fun x_1 => ?_)
  refine zo_istore_n (lv' := [(2, .int x_1), (0, .ref 83), (1, .int v1)]) hC dX8_logs_69 rfl (by decide) rfl ?_
  refine zo_aload_n hC dX8_logs_70 rfl 1 rfl ?_
  refine zo_getR hC (r := 85) fk8_17 (by decide) gr_83_7 at_83 dX8_logs_71 ?_
  refine zo_iload_n hC dX8_logs_74 rfl 0 rfl ?_
  refine zo_aload_n hC dX8_logs_75 rfl 1 rfl ?_
  refine zo_getR hC (r := 85) fk8_17 (by decide) gr_83_7 at_83 dX8_logs_76 ?_
  refine zo_bipush (v := 72) hC (by decide) dX8_logs_79 ?_
  refine zo_iald hC ar_85 (e_ix_vp (by decide)) dX8_logs_81 ?_
  refine zo_as (fun h_2 => ?_)
  refine zo_iast hC ar_85 (e_ix_vp h_2) dX8_logs_82 ?_
  refine zo_topI (fun I_3 => ?_)
  refine zo_aload_n hC dX8_logs_83 rfl 1 rfl ?_
  refine zo_getR hC (r := 85) fk8_17 (by decide) gr_83_7 at_83 dX8_logs_84 ?_
  refine zo_iload_n hC dX8_logs_87 rfl 0 rfl ?_
  refine zo_iconst (v := 1) hC (by decide) dX8_logs_88 ?_
  refine zo_iadd hC dX8_logs_89 ?_
  refine zo_iload_n hC dX8_logs_90 rfl 2 rfl ?_
  refine zo_as (fun h_4 => ?_)
  refine zo_iast hC ar_85 (e_ix_vp h_4) dX8_logs_91 ?_
  refine zo_topI (fun I_5 => ?_)
  refine zo_aload_n hC dX8_logs_92 rfl 1 rfl ?_
  refine zo_getR hC (r := 85) fk8_17 (by decide) gr_83_7 at_83 dX8_logs_93 ?_
  refine zo_iload_n hC dX8_logs_96 rfl 0 rfl ?_
  refine zo_iconst (v := 2) hC (by decide) dX8_logs_97 ?_
  refine zo_iadd hC dX8_logs_98 ?_
  refine zo_aload_n hC dX8_logs_99 rfl 1 rfl ?_
  refine zo_getI hC fk8_206 at_83 dX8_logs_100 ?_
  refine zo_as (fun h_6 => ?_)
  refine zo_iast hC ar_85 (e_ix_vp h_6) dX8_logs_103 ?_
  refine zo_topI (fun I_7 => ?_)
  refine zo_aload_n hC dX8_logs_104 rfl 1 rfl ?_
  refine zo_getR hC (r := 85) fk8_17 (by decide) gr_83_7 at_83 dX8_logs_105 ?_
  refine zo_iload_n hC dX8_logs_108 rfl 0 rfl ?_
  refine zo_iconst (v := 3) hC (by decide) dX8_logs_109 ?_
  refine zo_iadd hC dX8_logs_110 ?_
  refine zo_aload_n hC dX8_logs_111 rfl 1 rfl ?_
  refine zo_getR hC (r := 85) fk8_17 (by decide) gr_83_7 at_83 dX8_logs_112 ?_
  refine zo_bipush (v := 69) hC (by decide) dX8_logs_115 ?_
  refine zo_iald hC ar_85 (e_ix_vp (by decide)) dX8_logs_117 ?_
  refine zo_as (fun h_8 => ?_)
  refine zo_iast hC ar_85 (e_ix_vp h_8) dX8_logs_118 ?_
  refine zo_topI (fun I_9 => ?_)
  refine zo_aload_n hC dX8_logs_119 rfl 1 rfl ?_
  refine zo_getR hC (r := 85) fk8_17 (by decide) gr_83_7 at_83 dX8_logs_120 ?_
  refine zo_iload_n hC dX8_logs_123 rfl 0 rfl ?_
  refine zo_iconst (v := 4) hC (by decide) dX8_logs_124 ?_
  refine zo_iadd hC dX8_logs_125 ?_
  refine zo_aload_n hC dX8_logs_126 rfl 1 rfl ?_
  refine zo_getR hC (r := 85) fk8_17 (by decide) gr_83_7 at_83 dX8_logs_127 ?_
  refine zo_bipush (v := 70) hC (by decide) dX8_logs_130 ?_
  refine zo_iald hC ar_85 (e_ix_vp (by decide)) dX8_logs_132 ?_
  refine zo_as (fun h_10 => ?_)
  refine zo_iast hC ar_85 (e_ix_vp h_10) dX8_logs_133 ?_
  refine zo_topI (fun I_11 => ?_)
  refine zo_aload_n hC dX8_logs_134 rfl 1 rfl ?_
  refine zo_getR hC (r := 85) fk8_17 (by decide) gr_83_7 at_83 dX8_logs_135 ?_
  refine zo_iload_n hC dX8_logs_138 rfl 0 rfl ?_
  refine zo_iconst (v := 5) hC (by decide) dX8_logs_139 ?_
  refine zo_iadd hC dX8_logs_140 ?_
  refine zo_aload_n hC dX8_logs_141 rfl 1 rfl ?_
  refine zo_getR hC (r := 85) fk8_17 (by decide) gr_83_7 at_83 dX8_logs_142 ?_
  refine zo_bipush (v := 71) hC (by decide) dX8_logs_145 ?_
  refine zo_iald hC ar_85 (e_ix_vp (by decide)) dX8_logs_147 ?_
  refine zo_as (fun h_12 => ?_)
  refine zo_iast hC ar_85 (e_ix_vp h_12) dX8_logs_148 ?_
  refine zo_topI (fun I_13 => ?_)
  refine zo_aload_n hC dX8_logs_149 rfl 1 rfl ?_
  refine zo_getR hC (r := 85) fk8_17 (by decide) gr_83_7 at_83 dX8_logs_150 ?_
  refine zo_iload_n hC dX8_logs_153 rfl 0 rfl ?_
  refine zo_bipush (v := 6) hC (by decide) dX8_logs_154 ?_
  refine zo_iadd hC dX8_logs_156 ?_
  refine zo_aload_n hC dX8_logs_157 rfl 1 rfl ?_
  refine zo_getI hC fk8_209 at_83 dX8_logs_158 ?_
  refine zo_as (fun h_14 => ?_)
  refine zo_iast hC ar_85 (e_ix_vp h_14) dX8_logs_161 ?_
  refine zo_topI (fun I_15 => ?_)
  refine zo_aload_n hC dX8_logs_162 rfl 1 rfl ?_
  refine zo_getR hC (r := 85) fk8_17 (by decide) gr_83_7 at_83 dX8_logs_163 ?_
  refine zo_iload_n hC dX8_logs_166 rfl 0 rfl ?_
  refine zo_bipush (v := 7) hC (by decide) dX8_logs_167 ?_
  refine zo_iadd hC dX8_logs_169 ?_
  refine zo_aload_n hC dX8_logs_170 rfl 1 rfl ?_
  refine zo_getI hC fk8_216 at_83 dX8_logs_171 ?_
  refine zo_as (fun h_16 => ?_)
  refine zo_iast hC ar_85 (e_ix_vp h_16) dX8_logs_174 ?_
  refine zo_topI (fun I_17 => ?_)
  refine zo_aload_n hC dX8_logs_175 rfl 1 rfl ?_
  refine zo_getR hC (r := 85) fk8_17 (by decide) gr_83_7 at_83 dX8_logs_176 ?_
  refine zo_bipush (v := 75) hC (by decide) dX8_logs_179 ?_
  refine zo_dup2 hC rfl rfl dX8_logs_181 ?_
  refine zo_iald hC ar_85 (e_ix_vp (by decide)) dX8_logs_182 ?_
  refine zo_iconst (v := 1) hC (by decide) dX8_logs_183 ?_
  refine zo_iadd hC dX8_logs_184 ?_
  refine zo_iast hC ar_85 (e_ix_vp (by decide)) dX8_logs_185 ?_
  refine zo_topI (fun I_18 => ?_)
  exact zo_vret hC rfl dX8_logs_186

def f_X8_logs (v1 : Int32) (I : e_I) : Option (e_I) :=
  if (I 85 (75 : Int32).toNatClampNeg) ≠ 40 then (
    f_X8_logs_56 v1 I)
  else (
    f_X8_logs_14 v1 (fun (I_2 : e_I) =>
      e_let (e_ui I_2 85 (75 : Int32).toNatClampNeg ((I_2 85 (75 : Int32).toNatClampNeg) - 1)) (fun (I_3 : e_I) =>
      f_X8_logs_56 v1 I_3)) e_FU 0 I)
set_option maxRecDepth 100000 in
set_option maxHeartbeats 4000000 in
theorem Zf_X8_logs {X : e_X} (hC : e_C X cX8_logs RX8 3 none 0 gN) (v1 : Int32) (I : e_I) (L : e_L) : Zo X (ph_vI L) (f_X8_logs v1 I) 0 [(0, .ref 83), (1, .int v1)] [] I L := by
  unfold f_X8_logs
  refine zo_aload_n hC dX8_logs_0 rfl 0 rfl ?_
  refine zo_getR hC (r := 85) fk8_17 (by decide) gr_83_7 at_83 dX8_logs_1 ?_
  refine zo_bipush (v := 75) hC (by decide) dX8_logs_4 ?_
  refine zo_iald hC ar_85 (e_ix_vp (by decide)) dX8_logs_6 ?_
  refine zo_bipush (v := 40) hC (by decide) dX8_logs_7 ?_
  refine zo_icmp_ne (tgt := 56) hC dX8_logs_9 (by decide) (fun c_1 => ?_) (fun c_1 => ?_)
  · exact Zf_X8_logs_56 hC L v1 I
  · refine zo_iconst (v := 0) hC (by decide) dX8_logs_12 ?_
    refine zo_istore_n (lv' := [(2, .int 0), (0, .ref 83), (1, .int v1)]) hC dX8_logs_13 rfl (by decide) rfl ?_
    refine zo_sub [1, 2, 0] (lv' := [(0, .ref 83), (1, .int v1), (2, .int 0)]) rfl ?_
    refine Zf_X8_logs_14 hC L v1 _ (fun I_2 => ?_) e_FU 0 I
    · refine zo_aload_n hC dX8_logs_45 rfl 0 rfl ?_
      refine zo_getR hC (r := 85) fk8_17 (by decide) gr_83_7 at_83 dX8_logs_46 ?_
      refine zo_bipush (v := 75) hC (by decide) dX8_logs_49 ?_
      refine zo_dup2 hC rfl rfl dX8_logs_51 ?_
      refine zo_iald hC ar_85 (e_ix_vp (by decide)) dX8_logs_52 ?_
      refine zo_iconst (v := 1) hC (by decide) dX8_logs_53 ?_
      refine zo_isub hC dX8_logs_54 ?_
      refine zo_iast hC ar_85 (e_ix_vp (by decide)) dX8_logs_55 ?_
      refine zo_topI (fun I_3 => ?_)
      exact Zf_X8_logs_56 hC L v1 I_3

theorem T_X8_logs (v1 : Int32) (I : e_I) (L : e_L) (p : e_I) (hp : f_X8_logs v1 I = some p) : Mt yX8_logs cX8_logs 3 none 0 gN [.ref 83, .int v1] I L ((ph_vI L) p) := zo_enter hp (by decide) (Nat.le_of_ble_eq_true rfl) (fun X hC => Zf_X8_logs hC v1 I L)
def f_X8_happens_137 (I : e_I) : Option (Int32 × e_I) :=
  some ((I 83 21), I)
set_option maxRecDepth 100000 in
set_option maxHeartbeats 4000000 in
theorem Zf_X8_happens_137 {X : e_X} (hC : e_C X cX8_happens RX8 2 (some .int) 3 gN) (L : e_L) (I : e_I) : Zo X (ph_iI L) (f_X8_happens_137 I) 137 [(0, .ref 83)] [] I L := by
  unfold f_X8_happens_137
  refine zo_aload_n hC dX8_happens_137 rfl 0 rfl ?_
  refine zo_getI hC fk8_206 at_83 dX8_happens_138 ?_
  exact zo_iret hC rfl dX8_happens_141

def f_X8_happens_83 (v1 : Int32) (s0 : Int32) (s1 : Int32) (s2 : Int32) (I : e_I) : Option (Int32 × e_I) :=
  e_as (e_ix s2 396 = true) (
  e_let (e_ui I 85 s2.toNatClampNeg (s1 + s0)) (fun (I_2 : e_I) =>
  if v1 > 6 then (
    f_X8_happens_137 I_2)
  else (
    e_b1 (f_X8_placeOf (I_2 85 (72 : Int32).toNatClampNeg) I_2) (fun (r_4 : Int32) =>
    e_as (¬ (I_2 85 (0 : Int32).toNatClampNeg) = 0) (
    e_as (e_ix ((60 : Int32) + (e_rm (r_4 + 1) (I_2 85 (0 : Int32).toNatClampNeg))) 396 = true) (
    e_let (e_ui I_2 85 (72 : Int32).toNatClampNeg (I_2 85 ((60 : Int32) + (e_rm (r_4 + 1) (I_2 85 (0 : Int32).toNatClampNeg))).toNatClampNeg)) (fun (I_7 : e_I) =>
    e_let (e_ui I_7 85 (73 : Int32).toNatClampNeg ((I_7 85 (73 : Int32).toNatClampNeg) + 1)) (fun (I_8 : e_I) =>
    f_X8_happens_137 I_8))))))))
set_option maxRecDepth 100000 in
set_option maxHeartbeats 4000000 in
theorem Zf_X8_happens_83 {X : e_X} (hC : e_C X cX8_happens RX8 2 (some .int) 3 gN) (L : e_L) (v1 : Int32) (s0 : Int32) (s1 : Int32) (s2 : Int32) (I : e_I) : Zo X (ph_iI L) (f_X8_happens_83 v1 s0 s1 s2 I) 83 [(0, .ref 83), (1, .int v1)] [.int s0, .int s1, .int s2, .ref 85] I L := by
  unfold f_X8_happens_83
  refine zo_iadd hC dX8_happens_83 ?_
  refine zo_as (fun h_1 => ?_)
  refine zo_iast hC ar_85 (e_ix_vp h_1) dX8_happens_84 ?_
  refine zo_topI (fun I_2 => ?_)
  refine zo_iload_n hC dX8_happens_85 rfl 1 rfl ?_
  refine zo_bipush (v := 6) hC (by decide) dX8_happens_86 ?_
  refine zo_icmp_gt (tgt := 137) hC dX8_happens_88 (by decide) (fun c_3 => ?_) (fun c_3 => ?_)
  · refine zo_sub [0] (lv' := [(0, .ref 83)]) rfl ?_
    exact Zf_X8_happens_137 hC L I_2
  · refine zo_aload_n hC dX8_happens_91 rfl 0 rfl ?_
    refine zo_getR hC (r := 85) fk8_17 (by decide) gr_83_7 at_83 dX8_happens_92 ?_
    refine zo_bipush (v := 72) hC (by decide) dX8_happens_95 ?_
    refine zo_aload_n hC dX8_happens_97 rfl 0 rfl ?_
    refine zo_getR hC (r := 85) fk8_17 (by decide) gr_83_7 at_83 dX8_happens_98 ?_
    refine zo_bipush (v := 60) hC (by decide) dX8_happens_101 ?_
    refine zo_aload_n hC dX8_happens_103 rfl 0 rfl ?_
    refine zo_aload_n hC dX8_happens_104 rfl 0 rfl ?_
    refine zo_getR hC (r := 85) fk8_17 (by decide) gr_83_7 at_83 dX8_happens_105 ?_
    refine zo_bipush (v := 72) hC (by decide) dX8_happens_108 ?_
    refine zo_iald hC ar_85 (e_ix_vp (by decide)) dX8_happens_110 ?_
    refine zo_callV_i hC (ci := 8) [.int (I_2 85 (72 : Int32).toNatClampNeg)] [.int 60, .ref 85, .int 72, .ref 85] me_X8_placeOf mlX8_195 im_X8_placeOf se_X8_placeOf rfl (by decide) at_83 (fun p hp => T_X8_placeOf (I_2 85 (72 : Int32).toNatClampNeg) I_2 L p hp) (by decide) rfl (Nat.le_of_ble_eq_true rfl) dX8_happens_111 rfl (fun r_4 => ?_)
    refine zo_iconst (v := 1) hC (by decide) dX8_happens_114 ?_
    refine zo_iadd hC dX8_happens_115 ?_
    refine zo_aload_n hC dX8_happens_116 rfl 0 rfl ?_
    refine zo_getR hC (r := 85) fk8_17 (by decide) gr_83_7 at_83 dX8_happens_117 ?_
    refine zo_iconst (v := 0) hC (by decide) dX8_happens_120 ?_
    refine zo_iald hC ar_85 (e_ix_vp (by decide)) dX8_happens_121 ?_
    refine zo_as (fun h_5 => ?_)
    refine zo_irem_ hC h_5 dX8_happens_122 ?_
    refine zo_iadd hC dX8_happens_123 ?_
    refine zo_as (fun h_6 => ?_)
    refine zo_iald hC ar_85 (e_ix_vp h_6) dX8_happens_124 ?_
    refine zo_iast hC ar_85 (e_ix_vp (by decide)) dX8_happens_125 ?_
    refine zo_topI (fun I_7 => ?_)
    refine zo_aload_n hC dX8_happens_126 rfl 0 rfl ?_
    refine zo_getR hC (r := 85) fk8_17 (by decide) gr_83_7 at_83 dX8_happens_127 ?_
    refine zo_bipush (v := 73) hC (by decide) dX8_happens_130 ?_
    refine zo_dup2 hC rfl rfl dX8_happens_132 ?_
    refine zo_iald hC ar_85 (e_ix_vp (by decide)) dX8_happens_133 ?_
    refine zo_iconst (v := 1) hC (by decide) dX8_happens_134 ?_
    refine zo_iadd hC dX8_happens_135 ?_
    refine zo_iast hC ar_85 (e_ix_vp (by decide)) dX8_happens_136 ?_
    refine zo_topI (fun I_8 => ?_)
    refine zo_sub [0] (lv' := [(0, .ref 83)]) rfl ?_
    exact Zf_X8_happens_137 hC L I_8

def f_X8_happens (v1 : Int32) (I : e_I) : Option (Int32 × e_I) :=
  e_b1 (f_X8_comes (I 85 (70 : Int32).toNatClampNeg) (I 85 (71 : Int32).toNatClampNeg) v1 I) (fun (I_1 : e_I) =>
  e_b1 (f_X8_logs v1 I_1) (fun (I_2 : e_I) =>
  e_let (e_ui I_2 85 (74 : Int32).toNatClampNeg ((I_2 85 (74 : Int32).toNatClampNeg) + (I_2 83 21))) (fun (I_3 : e_I) =>
  e_let (e_ui I_3 85 (70 : Int32).toNatClampNeg (I_3 83 19)) (fun (I_4 : e_I) =>
  e_let (e_ui I_4 85 (71 : Int32).toNatClampNeg (e_rm (I_4 83 20) 3)) (fun (I_5 : e_I) =>
  if (I_5 83 20) ≠ 3 then (
    f_X8_happens_83 v1 0 (I_5 85 (69 : Int32).toNatClampNeg) 69 I_5)
  else (
    f_X8_happens_83 v1 1 (I_5 85 (69 : Int32).toNatClampNeg) 69 I_5))))))
set_option maxRecDepth 100000 in
set_option maxHeartbeats 4000000 in
theorem Zf_X8_happens {X : e_X} (hC : e_C X cX8_happens RX8 2 (some .int) 3 gN) (v1 : Int32) (I : e_I) (L : e_L) : Zo X (ph_iI L) (f_X8_happens v1 I) 0 [(0, .ref 83), (1, .int v1)] [] I L := by
  unfold f_X8_happens
  refine zo_aload_n hC dX8_happens_0 rfl 0 rfl ?_
  refine zo_aload_n hC dX8_happens_1 rfl 0 rfl ?_
  refine zo_getR hC (r := 85) fk8_17 (by decide) gr_83_7 at_83 dX8_happens_2 ?_
  refine zo_bipush (v := 70) hC (by decide) dX8_happens_5 ?_
  refine zo_iald hC ar_85 (e_ix_vp (by decide)) dX8_happens_7 ?_
  refine zo_aload_n hC dX8_happens_8 rfl 0 rfl ?_
  refine zo_getR hC (r := 85) fk8_17 (by decide) gr_83_7 at_83 dX8_happens_9 ?_
  refine zo_bipush (v := 71) hC (by decide) dX8_happens_12 ?_
  refine zo_iald hC ar_85 (e_ix_vp (by decide)) dX8_happens_14 ?_
  refine zo_iload_n hC dX8_happens_15 rfl 1 rfl ?_
  refine zo_callV_vI hC (ci := 8) [.int (I 85 (70 : Int32).toNatClampNeg), .int (I 85 (71 : Int32).toNatClampNeg), .int v1] [] me_X8_comes mlX8_229 im_X8_comes se_X8_comes rfl (by decide) at_83 (fun p hp => T_X8_comes (I 85 (70 : Int32).toNatClampNeg) (I 85 (71 : Int32).toNatClampNeg) v1 I L p hp) (by decide) rfl (Nat.le_of_ble_eq_true rfl) dX8_happens_16 rfl (fun I_1 => ?_)
  refine zo_aload_n hC dX8_happens_19 rfl 0 rfl ?_
  refine zo_iload_n hC dX8_happens_20 rfl 1 rfl ?_
  refine zo_callV_vI hC (ci := 8) [.int v1] [] me_X8_logs mlX8_326 im_X8_logs se_X8_logs rfl (by decide) at_83 (fun p hp => T_X8_logs v1 I_1 L p hp) (by decide) rfl (Nat.le_of_ble_eq_true rfl) dX8_happens_21 rfl (fun I_2 => ?_)
  refine zo_aload_n hC dX8_happens_24 rfl 0 rfl ?_
  refine zo_getR hC (r := 85) fk8_17 (by decide) gr_83_7 at_83 dX8_happens_25 ?_
  refine zo_bipush (v := 74) hC (by decide) dX8_happens_28 ?_
  refine zo_dup2 hC rfl rfl dX8_happens_30 ?_
  refine zo_iald hC ar_85 (e_ix_vp (by decide)) dX8_happens_31 ?_
  refine zo_aload_n hC dX8_happens_32 rfl 0 rfl ?_
  refine zo_getI hC fk8_206 at_83 dX8_happens_33 ?_
  refine zo_iadd hC dX8_happens_36 ?_
  refine zo_iast hC ar_85 (e_ix_vp (by decide)) dX8_happens_37 ?_
  refine zo_topI (fun I_3 => ?_)
  refine zo_aload_n hC dX8_happens_38 rfl 0 rfl ?_
  refine zo_getR hC (r := 85) fk8_17 (by decide) gr_83_7 at_83 dX8_happens_39 ?_
  refine zo_bipush (v := 70) hC (by decide) dX8_happens_42 ?_
  refine zo_aload_n hC dX8_happens_44 rfl 0 rfl ?_
  refine zo_getI hC fk8_209 at_83 dX8_happens_45 ?_
  refine zo_iast hC ar_85 (e_ix_vp (by decide)) dX8_happens_48 ?_
  refine zo_topI (fun I_4 => ?_)
  refine zo_aload_n hC dX8_happens_49 rfl 0 rfl ?_
  refine zo_getR hC (r := 85) fk8_17 (by decide) gr_83_7 at_83 dX8_happens_50 ?_
  refine zo_bipush (v := 71) hC (by decide) dX8_happens_53 ?_
  refine zo_aload_n hC dX8_happens_55 rfl 0 rfl ?_
  refine zo_getI hC fk8_216 at_83 dX8_happens_56 ?_
  refine zo_iconst (v := 3) hC (by decide) dX8_happens_59 ?_
  refine zo_irem_ hC (by decide) dX8_happens_60 ?_
  refine zo_iast hC ar_85 (e_ix_vp (by decide)) dX8_happens_61 ?_
  refine zo_topI (fun I_5 => ?_)
  refine zo_aload_n hC dX8_happens_62 rfl 0 rfl ?_
  refine zo_getR hC (r := 85) fk8_17 (by decide) gr_83_7 at_83 dX8_happens_63 ?_
  refine zo_bipush (v := 69) hC (by decide) dX8_happens_66 ?_
  refine zo_dup2 hC rfl rfl dX8_happens_68 ?_
  refine zo_iald hC ar_85 (e_ix_vp (by decide)) dX8_happens_69 ?_
  refine zo_aload_n hC dX8_happens_70 rfl 0 rfl ?_
  refine zo_getI hC fk8_216 at_83 dX8_happens_71 ?_
  refine zo_iconst (v := 3) hC (by decide) dX8_happens_74 ?_
  refine zo_icmp_ne (tgt := 82) hC dX8_happens_75 (by decide) (fun c_6 => ?_) (fun c_6 => ?_)
  · refine zo_iconst (v := 0) hC (by decide) dX8_happens_82 ?_
    exact Zf_X8_happens_83 hC L v1 0 (I_5 85 (69 : Int32).toNatClampNeg) 69 I_5
  · refine zo_iconst (v := 1) hC (by decide) dX8_happens_78 ?_
    refine zo_goto (tgt := 83) hC dX8_happens_79 (by decide) ?_
    exact Zf_X8_happens_83 hC L v1 1 (I_5 85 (69 : Int32).toNatClampNeg) 69 I_5

theorem T_X8_happens (v1 : Int32) (I : e_I) (L : e_L) (p : Int32 × e_I) (hp : f_X8_happens v1 I = some p) : Mt yX8_happens cX8_happens 2 (some .int) 3 gN [.ref 83, .int v1] I L ((ph_iI L) p) := zo_enter hp (by decide) (Nat.le_of_ble_eq_true rfl) (fun X hC => Zf_X8_happens hC v1 I L)
def f_X8_draws (L : e_L) : Option (Int32 × e_L) :=
  e_let (e_ul L 83 31 (e_rml ((L 83 31) * 16807) 2147483647)) (fun (L_1 : e_L) =>
  some ((e_rml (L_1 83 31) 20).toInt32, L_1))
set_option maxRecDepth 100000 in
set_option maxHeartbeats 4000000 in
theorem Zf_X8_draws {X : e_X} (hC : e_C X cX8_draws RX8 1 (some .int) 0 gN) (I : e_I) (L : e_L) : Zo X (ph_iL I) (f_X8_draws L) 0 [(0, .ref 83)] [] I L := by
  unfold f_X8_draws
  refine zo_aload_n hC dX8_draws_0 rfl 0 rfl ?_
  refine zo_aload_n hC dX8_draws_1 rfl 0 rfl ?_
  refine zo_getL hC fk8_329 at_83 dX8_draws_2 ?_
  refine zo_ldc2 (v := 16807) hC clX8_332 dX8_draws_5 ?_
  refine zo_lmul hC dX8_draws_8 ?_
  refine zo_ldc2 (v := 2147483647) hC clX8_334 dX8_draws_9 ?_
  refine zo_lrem_ hC (by decide) dX8_draws_12 ?_
  refine zo_putL hC fk8_329 ff8_31 at_83 dX8_draws_13 ?_
  refine zo_topL (fun L_1 => ?_)
  refine zo_aload_n hC dX8_draws_16 rfl 0 rfl ?_
  refine zo_getL hC fk8_329 at_83 dX8_draws_17 ?_
  refine zo_ldc2 (v := 20) hC clX8_241 dX8_draws_20 ?_
  refine zo_lrem_ hC (by decide) dX8_draws_23 ?_
  refine zo_l2i hC dX8_draws_24 ?_
  exact zo_iret hC rfl dX8_draws_25

theorem T_X8_draws (I : e_I) (L : e_L) (p : Int32 × e_L) (hp : f_X8_draws L = some p) : Mt yX8_draws cX8_draws 1 (some .int) 0 gN [.ref 83] I L ((ph_iL I) p) := zo_enter hp (by decide) (Nat.le_of_ble_eq_true rfl) (fun X hC => Zf_X8_draws hC I L)
def f_X8_chooses_98 (s0 : Int32) (I : e_I) (L : e_L) : Option (Int32 × e_I × e_L) :=
  some (s0, I, L)
set_option maxRecDepth 100000 in
set_option maxHeartbeats 4000000 in
theorem Zf_X8_chooses_98 {X : e_X} (hC : e_C X cX8_chooses RX8 3 (some .int) 11 gN) (s0 : Int32) (I : e_I) (L : e_L) : Zo X (ph_iIL) (f_X8_chooses_98 s0 I L) 98 [] [.int s0] I L := by
  unfold f_X8_chooses_98
  exact zo_iret hC rfl dX8_chooses_98

def f_X8_chooses_97 (I : e_I) (L : e_L) : Option (Int32 × e_I × e_L) :=
  f_X8_chooses_98 0 I L
set_option maxRecDepth 100000 in
set_option maxHeartbeats 4000000 in
theorem Zf_X8_chooses_97 {X : e_X} (hC : e_C X cX8_chooses RX8 3 (some .int) 11 gN) (I : e_I) (L : e_L) : Zo X (ph_iIL) (f_X8_chooses_97 I L) 97 [] [] I L := by
  unfold f_X8_chooses_97
  refine zo_iconst (v := 0) hC (by decide) dX8_chooses_97 ?_
  exact Zf_X8_chooses_98 hC 0 I L

def f_X8_chooses (v1 : Int32) (I : e_I) (L : e_L) : Option (Int32 × e_I × e_L) :=
  e_b2 (f_X8_laysNow 2 2 I L) (fun (I_1 : e_I) (L_2 : e_L) =>
  e_let (((8 : Int32) * (I_1 85 (71 : Int32).toNatClampNeg)) + (I_1 85 (70 : Int32).toNatClampNeg)) (fun (x_3 : Int32) =>
  if v1 = 0 then (
    e_let (e_ul L_2 83 26 ((L_2 83 26) / 400)) (fun (L_5 : e_L) =>
    e_b1 (f_X8_canBe (e_rm x_3 8) (x_3 / 8) 6) (fun (r_6 : Int32) =>
    if r_6 = 0 then (
      f_X8_chooses_97 I_1 L_5)
    else (
      e_b2 (f_X8_bunts (e_rm x_3 8) (x_3 / 8) I_1 L_5) (fun (r_8 : Int64) (I_9 : e_I) =>
      e_b2 (f_X8_hits (e_rm x_3 8) (x_3 / 8) 2 I_9 L_5) (fun (r_10 : Int64) (I_11 : e_I) =>
      if (lg_cmp r_8 r_10) ≤ 0 then (
        f_X8_chooses_97 I_11 L_5)
      else (
        f_X8_chooses_98 1 I_11 L_5)))))))
  else (
    e_as (e_ix x_3 24 = true) (
    some ((I_1 91 x_3.toNatClampNeg), I_1, L_2)))))
set_option maxRecDepth 100000 in
set_option maxHeartbeats 4000000 in
theorem Zf_X8_chooses {X : e_X} (hC : e_C X cX8_chooses RX8 3 (some .int) 11 gN) (v1 : Int32) (I : e_I) (L : e_L) : Zo X (ph_iIL) (f_X8_chooses v1 I L) 0 [(0, .ref 83), (1, .int v1)] [] I L := by
  unfold f_X8_chooses
  refine zo_aload_n hC dX8_chooses_0 rfl 0 rfl ?_
  refine zo_iconst (v := 2) hC (by decide) dX8_chooses_1 ?_
  refine zo_iconst (v := 2) hC (by decide) dX8_chooses_2 ?_
  refine zo_callV_vIL hC (ci := 8) [.int 2, .int 2] [] me_X8_laysNow mlX8_292 im_X8_laysNow se_X8_laysNow rfl (by decide) at_83 (fun p hp => T_X8_laysNow 2 2 I L p hp) (by decide) rfl (Nat.le_of_ble_eq_true rfl) dX8_chooses_3 rfl (fun I_1 L_2 => ?_)
  refine zo_bipush (v := 8) hC (by decide) dX8_chooses_6 ?_
  refine zo_aload_n hC dX8_chooses_8 rfl 0 rfl ?_
  refine zo_getR hC (r := 85) fk8_17 (by decide) gr_83_7 at_83 dX8_chooses_9 ?_
  refine zo_bipush (v := 71) hC (by decide) dX8_chooses_12 ?_
  refine zo_iald hC ar_85 (e_ix_vp (by decide)) dX8_chooses_14 ?_
  refine zo_imul hC dX8_chooses_15 ?_
  refine zo_aload_n hC dX8_chooses_16 rfl 0 rfl ?_
  refine zo_getR hC (r := 85) fk8_17 (by decide) gr_83_7 at_83 dX8_chooses_17 ?_
  refine zo_bipush (v := 70) hC (by decide) dX8_chooses_20 ?_
  refine zo_iald hC ar_85 (e_ix_vp (by decide)) dX8_chooses_22 ?_
  refine zo_iadd hC dX8_chooses_23 ?_
  refine zo_topi (fun x_3 => ?_)
  refine zo_istore_n (lv' := [(2, .int x_3), (0, .ref 83), (1, .int v1)]) hC dX8_chooses_24 rfl (by decide) rfl ?_
  refine zo_iload_n hC dX8_chooses_25 rfl 2 rfl ?_
  refine zo_if_eq (tgt := 36) hC dX8_chooses_26 (by decide) (fun c_4 => ?_) (fun c_4 => ?_)
  · refine zo_aload_n hC dX8_chooses_36 rfl 1 rfl ?_
    refine zo_dup hC rfl dX8_chooses_37 ?_
    refine zo_getL hC fk8_233 at_83 dX8_chooses_38 ?_
    refine zo_ldc2 (v := 400) hC clX8_266 dX8_chooses_41 ?_
    refine zo_ldiv hC (by decide) dX8_chooses_44 ?_
    refine zo_putL hC fk8_233 ff8_26 at_83 dX8_chooses_45 ?_
    refine zo_topL (fun L_5 => ?_)
    refine zo_iload_n hC dX8_chooses_48 rfl 0 rfl ?_
    refine zo_bipush (v := 8) hC (by decide) dX8_chooses_49 ?_
    refine zo_irem_ hC (by decide) dX8_chooses_51 ?_
    refine zo_iload_n hC dX8_chooses_52 rfl 0 rfl ?_
    refine zo_bipush (v := 8) hC (by decide) dX8_chooses_53 ?_
    refine zo_idiv hC (by decide) dX8_chooses_55 ?_
    refine zo_bipush (v := 6) hC (by decide) dX8_chooses_56 ?_
    refine zo_callS_i hC [.int (e_rm x_3 8), .int (x_3 / 8), .int 6] [] me_X8_canBe mlX8_226 sm_X8_canBe (fun p hp => T_X8_canBe (e_rm x_3 8) (x_3 / 8) 6 I_1 L_5 p hp) (by decide) rfl (Nat.le_of_ble_eq_true rfl) dX8_chooses_58 rfl (fun r_6 => ?_)
    refine zo_if_eq (tgt := 97) hC dX8_chooses_61 (by decide) (fun c_7 => ?_) (fun c_7 => ?_)
    · refine zo_sub [] (lv' := []) rfl ?_
      exact Zf_X8_chooses_97 hC I_1 L_5
    · refine zo_aload_n hC dX8_chooses_64 rfl 1 rfl ?_
      refine zo_iload_n hC dX8_chooses_65 rfl 0 rfl ?_
      refine zo_bipush (v := 8) hC (by decide) dX8_chooses_66 ?_
      refine zo_irem_ hC (by decide) dX8_chooses_68 ?_
      refine zo_iload_n hC dX8_chooses_69 rfl 0 rfl ?_
      refine zo_bipush (v := 8) hC (by decide) dX8_chooses_70 ?_
      refine zo_idiv hC (by decide) dX8_chooses_72 ?_
      refine zo_callV_lI hC (ci := 8) [.int (e_rm x_3 8), .int (x_3 / 8)] [] me_X8_bunts mlX8_247 im_X8_bunts se_X8_bunts rfl (by decide) at_83 (fun p hp => T_X8_bunts (e_rm x_3 8) (x_3 / 8) I_1 L_5 p hp) (by decide) rfl (Nat.le_of_ble_eq_true rfl) dX8_chooses_73 rfl (fun r_8 I_9 => ?_)
      refine zo_aload_n hC dX8_chooses_76 rfl 1 rfl ?_
      refine zo_iload_n hC dX8_chooses_77 rfl 0 rfl ?_
      refine zo_bipush (v := 8) hC (by decide) dX8_chooses_78 ?_
      refine zo_irem_ hC (by decide) dX8_chooses_80 ?_
      refine zo_iload_n hC dX8_chooses_81 rfl 0 rfl ?_
      refine zo_bipush (v := 8) hC (by decide) dX8_chooses_82 ?_
      refine zo_idiv hC (by decide) dX8_chooses_84 ?_
      refine zo_iconst (v := 2) hC (by decide) dX8_chooses_85 ?_
      refine zo_callV_lI hC (ci := 8) [.int (e_rm x_3 8), .int (x_3 / 8), .int 2] [.long r_8] me_X8_hits mlX8_243 im_X8_hits se_X8_hits rfl (by decide) at_83 (fun p hp => T_X8_hits (e_rm x_3 8) (x_3 / 8) 2 I_9 L_5 p hp) (by decide) rfl (Nat.le_of_ble_eq_true rfl) dX8_chooses_86 rfl (fun r_10 I_11 => ?_)
      refine zo_lcmp hC dX8_chooses_89 ?_
      refine zo_if_le (tgt := 97) hC dX8_chooses_90 (by decide) (fun c_12 => ?_) (fun c_12 => ?_)
      · refine zo_sub [] (lv' := []) rfl ?_
        exact Zf_X8_chooses_97 hC I_11 L_5
      · refine zo_iconst (v := 1) hC (by decide) dX8_chooses_93 ?_
        refine zo_goto (tgt := 98) hC dX8_chooses_94 (by decide) ?_
        refine zo_sub [] (lv' := []) rfl ?_
        exact Zf_X8_chooses_98 hC 1 I_11 L_5
  · refine zo_aload_n hC dX8_chooses_29 rfl 1 rfl ?_
    refine zo_getR hC (r := 91) fk8_36 (by decide) gr_83_24 at_83 dX8_chooses_30 ?_
    refine zo_iload_n hC dX8_chooses_33 rfl 0 rfl ?_
    refine zo_as (fun h_13 => ?_)
    refine zo_iald hC ar_91 (e_ix_vp h_13) dX8_chooses_34 ?_
    exact zo_iret hC rfl dX8_chooses_35

theorem T_X8_chooses (v1 : Int32) (I : e_I) (L : e_L) (p : Int32 × e_I × e_L) (hp : f_X8_chooses v1 I L = some p) : Mt yX8_chooses cX8_chooses 3 (some .int) 11 gN [.ref 83, .int v1] I L ((ph_iIL) p) := zo_enter hp (by decide) (Nat.le_of_ble_eq_true rfl) (fun X hC => Zf_X8_chooses hC v1 I L)
