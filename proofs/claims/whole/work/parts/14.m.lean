def f_X7_chosen (v1 : Int32) (v2 : Int32) (v3 : Int32) (v4 : Int32) (v5 : Int32) (I : e_I) (L : e_L) : Option (Int64 × e_I × e_L) :=
  e_b1 (f_X7_isPart v5) (fun (r_1 : Int32) =>
  e_b1 (f_X7_troubleOfWay r_1 v1 v2 v3 v4 I) (fun (r_2 : Int32) =>
  e_b2 (f_X7_refused r_2 I) (fun (r_3 : Int32) (I_4 : e_I) =>
  if r_3 = 0 then (
    e_b1 (f_X0_ruled 23 3 I_4) (fun (r_6 : Int32) =>
    e_b2 (f_X1_lookAhead 23 v3 r_6 I_4 L) (fun (I_7 : e_I) (L_8 : e_L) =>
    e_b1 (f_X7_stateOf v1 v2) (fun (r_9 : Int32) =>
    e_b1 (f_X1_meanBy v4 r_9 I_7 L_8) (fun (r_10 : Int64) =>
    e_b1 (f_X1_unit v3 L_8) (fun (r_11 : Int64) =>
    e_b1 (f_X7_part r_10 r_11 v5) (fun (r_12 : Int64) =>
    some (r_12, I_7, L_8))))))))
  else (
    some ((-1), I_4, L)))))
set_option maxRecDepth 100000 in
set_option maxHeartbeats 4000000 in
theorem Zf_X7_chosen {X : e_X} (hC : e_C X cX7_chosen RX7 6 (some .long) 5 gN) (v1 : Int32) (v2 : Int32) (v3 : Int32) (v4 : Int32) (v5 : Int32) (I : e_I) (L : e_L) : Zo X (ph_lIL) (f_X7_chosen v1 v2 v3 v4 v5 I L) 0 [(0, .ref 0), (1, .int v1), (2, .int v2), (3, .int v3), (4, .int v4), (5, .int v5)] [] I L := by
  unfold f_X7_chosen
  refine zo_aload_n hC dX7_chosen_0 rfl 0 rfl ?_
  refine zo_aload_n hC dX7_chosen_1 rfl 0 rfl ?_
  refine zo_iload hC dX7_chosen_2 5 rfl ?_
  refine zo_callS_i hC [.int v5] [.ref 0, .ref 0] me_X7_isPart mlX7_200 sm_X7_isPart (fun p hp => T_X7_isPart v5 I L p hp) (by decide) rfl (Nat.le_of_ble_eq_true rfl) dX7_chosen_4 rfl (fun r_1 => ?_)
  refine zo_iload_n hC dX7_chosen_7 rfl 1 rfl ?_
  refine zo_iload_n hC dX7_chosen_8 rfl 2 rfl ?_
  refine zo_iload_n hC dX7_chosen_9 rfl 3 rfl ?_
  refine zo_iload hC dX7_chosen_10 4 rfl ?_
  refine zo_callV_i hC (ci := 7) [.int r_1, .int v1, .int v2, .int v3, .int v4] [.ref 0] me_X7_troubleOfWay mlX7_235 im_X7_troubleOfWay se_X7_troubleOfWay rfl (by decide) at_0 (fun p hp => T_X7_troubleOfWay r_1 v1 v2 v3 v4 I L p hp) (by decide) rfl (Nat.le_of_ble_eq_true rfl) dX7_chosen_12 rfl (fun r_2 => ?_)
  refine zo_callV_iI hC (ci := 7) [.int r_2] [] me_X7_refused mlX7_70 im_X7_refused se_X7_refused rfl (by decide) at_0 (fun p hp => T_X7_refused r_2 I L p hp) (by decide) rfl (Nat.le_of_ble_eq_true rfl) dX7_chosen_15 rfl (fun r_3 I_4 => ?_)
  refine zo_if_eq (tgt := 25) hC dX7_chosen_18 (by decide) (fun c_5 => ?_) (fun c_5 => ?_)
  · refine zo_aload_n hC dX7_chosen_25 rfl 0 rfl ?_
    refine zo_getR hC (r := 11) fk7_40 (by decide) gr_0_5 at_0 dX7_chosen_26 ?_
    refine zo_aload_n hC dX7_chosen_29 rfl 0 rfl ?_
    refine zo_getR hC (r := 23) fk7_23 (by decide) gr_0_2 at_0 dX7_chosen_30 ?_
    refine zo_iload_n hC dX7_chosen_33 rfl 3 rfl ?_
    refine zo_aload_n hC dX7_chosen_34 rfl 0 rfl ?_
    refine zo_getR hC (r := 23) fk7_23 (by decide) gr_0_2 at_0 dX7_chosen_35 ?_
    refine zo_iconst (v := 3) hC (by decide) dX7_chosen_38 ?_
    refine zo_callV_i hC (ci := 0) [.int 3] [.int v3, .ref 23, .ref 11] me_X0_ruled mlX7_139 im_X0_ruled se_X0_ruled rfl (by decide) at_23 (fun p hp => T_X0_ruled 23 isG_23 3 I_4 L p hp) (by decide) rfl (Nat.le_of_ble_eq_true rfl) dX7_chosen_39 rfl (fun r_6 => ?_)
    refine zo_callV_vIL hC (ci := 1) [.ref 23, .int v3, .int r_6] [] me_X1_lookAhead mlX7_224 im_X1_lookAhead se_X1_lookAhead rfl (by decide) at_11 (fun p hp => T_X1_lookAhead 23 isG_23 v3 r_6 I_4 L p hp) (by decide) rfl (Nat.le_of_ble_eq_true rfl) dX7_chosen_42 rfl (fun I_7 L_8 => ?_)
    refine zo_aload_n hC dX7_chosen_45 rfl 0 rfl ?_
    refine zo_getR hC (r := 11) fk7_40 (by decide) gr_0_5 at_0 dX7_chosen_46 ?_
    refine zo_iload hC dX7_chosen_49 4 rfl ?_
    refine zo_iload_n hC dX7_chosen_51 rfl 1 rfl ?_
    refine zo_iload_n hC dX7_chosen_52 rfl 2 rfl ?_
    refine zo_callS_i hC [.int v1, .int v2] [.int v4, .ref 11] me_X7_stateOf mlX7_178 sm_X7_stateOf (fun p hp => T_X7_stateOf v1 v2 I_7 L_8 p hp) (by decide) rfl (Nat.le_of_ble_eq_true rfl) dX7_chosen_53 rfl (fun r_9 => ?_)
    refine zo_callV_l hC (ci := 1) [.int v4, .int r_9] [] me_X1_meanBy mlX7_231 im_X1_meanBy se_X1_meanBy rfl (by decide) at_11 (fun p hp => T_X1_meanBy v4 r_9 I_7 L_8 p hp) (by decide) rfl (Nat.le_of_ble_eq_true rfl) dX7_chosen_56 rfl (fun r_10 => ?_)
    refine zo_aload_n hC dX7_chosen_59 rfl 0 rfl ?_
    refine zo_getR hC (r := 11) fk7_40 (by decide) gr_0_5 at_0 dX7_chosen_60 ?_
    refine zo_iload_n hC dX7_chosen_63 rfl 3 rfl ?_
    refine zo_callV_l hC (ci := 1) [.int v3] [.long r_10] me_X1_unit mlX7_213 im_X1_unit se_X1_unit rfl (by decide) at_11 (fun p hp => T_X1_unit v3 I_7 L_8 p hp) (by decide) rfl (Nat.le_of_ble_eq_true rfl) dX7_chosen_64 rfl (fun r_11 => ?_)
    refine zo_iload hC dX7_chosen_67 5 rfl ?_
    refine zo_callS_l hC [.long r_10, .long r_11, .int v5] [] me_X7_part mlX7_217 sm_X7_part (fun p hp => T_X7_part r_10 r_11 v5 I_7 L_8 p hp) (by decide) rfl (Nat.le_of_ble_eq_true rfl) dX7_chosen_69 rfl (fun r_12 => ?_)
    exact zo_lret hC rfl dX7_chosen_72
  · refine zo_ldc2 (v := (-1)) hC clX7_207 dX7_chosen_21 ?_
    exact zo_lret hC rfl dX7_chosen_24

theorem T_X7_chosen (v1 : Int32) (v2 : Int32) (v3 : Int32) (v4 : Int32) (v5 : Int32) (I : e_I) (L : e_L) (p : Int64 × e_I × e_L) (hp : f_X7_chosen v1 v2 v3 v4 v5 I L = some p) : Mt yX7_chosen cX7_chosen 6 (some .long) 5 gN [.ref 0, .int v1, .int v2, .int v3, .int v4, .int v5] I L ((ph_lIL) p) := zo_enter hp (by decide) (Nat.le_of_ble_eq_true rfl) (fun X hC => Zf_X7_chosen hC v1 v2 v3 v4 v5 I L)
def f_X7_breaksEven_21 (v1 : Int32) (v2 : Int32) (v3 : Int32) (k67 : e_I → e_L → Option (Int32 × e_I × e_L)) (k58 : Int32 → e_I → e_L → Option (Int32 × e_I × e_L)) : Nat → Int32 → e_I → e_L → Option (Int32 × e_I × e_L)
  | 0, _, _, _ => none
  | n + 1, v4, I, L =>
    if v4 > 20 then (
      k67 I L)
    else (
      e_b2 (f_X1_lookAhead 23 v3 v4 I L) (fun (I_2 : e_I) (L_3 : e_L) =>
      e_b1 (f_X7_stateOf v1 v2) (fun (r_4 : Int32) =>
      e_b1 (f_X1_choiceIn r_4 I_2 L_3) (fun (r_5 : Int32) =>
      if r_5 ≠ 2 then (
        e_let (v4 + 1) (fun (x_7 : Int32) =>
        f_X7_breaksEven_21 v1 v2 v3 k67 k58 n x_7 I_2 L_3))
      else (
        k58 v4 I_2 L_3)))))
set_option maxRecDepth 100000 in
set_option maxHeartbeats 4000000 in
theorem Zf_X7_breaksEven_21 {X : e_X} (hC : e_C X cX7_breaksEven RX7 5 (some .int) 6 gN) (v1 : Int32) (v2 : Int32) (v3 : Int32) (k67 : e_I → e_L → Option (Int32 × e_I × e_L)) (k58 : Int32 → e_I → e_L → Option (Int32 × e_I × e_L)) (hk67 : ∀ (I : e_I) (L : e_L), Zo X (ph_iIL) (k67 I L) 67 [] [] I L) (hk58 : ∀ (v4 : Int32) (I : e_I) (L : e_L), Zo X (ph_iIL) (k58 v4 I L) 58 [(4, .int v4)] [] I L) : ∀ (n : Nat) (v4 : Int32) (I : e_I) (L : e_L), Zo X (ph_iIL) (f_X7_breaksEven_21 v1 v2 v3 k67 k58 n v4 I L) 21 [(0, .ref 0), (1, .int v1), (2, .int v2), (3, .int v3), (4, .int v4)] [] I L := by
  intro n
  induction n with
  | zero => intro v4 I L p hp; cases hp
  | succ n ih =>
    intro v4 I L
    unfold f_X7_breaksEven_21
    refine zo_iload hC dX7_breaksEven_21 4 rfl ?_
    refine zo_bipush (v := 20) hC (by decide) dX7_breaksEven_23 ?_
    refine zo_icmp_gt (tgt := 67) hC dX7_breaksEven_25 (by decide) (fun c_1 => ?_) (fun c_1 => ?_)
    · refine zo_sub [] (lv' := []) rfl ?_
      exact hk67 I L
    · refine zo_aload_n hC dX7_breaksEven_28 rfl 0 rfl ?_
      refine zo_getR hC (r := 11) fk7_40 (by decide) gr_0_5 at_0 dX7_breaksEven_29 ?_
      refine zo_aload_n hC dX7_breaksEven_32 rfl 0 rfl ?_
      refine zo_getR hC (r := 23) fk7_23 (by decide) gr_0_2 at_0 dX7_breaksEven_33 ?_
      refine zo_iload_n hC dX7_breaksEven_36 rfl 3 rfl ?_
      refine zo_iload hC dX7_breaksEven_37 4 rfl ?_
      refine zo_callV_vIL hC (ci := 1) [.ref 23, .int v3, .int v4] [] me_X1_lookAhead mlX7_224 im_X1_lookAhead se_X1_lookAhead rfl (by decide) at_11 (fun p hp => T_X1_lookAhead 23 isG_23 v3 v4 I L p hp) (by decide) rfl (Nat.le_of_ble_eq_true rfl) dX7_breaksEven_39 rfl (fun I_2 L_3 => ?_)
      refine zo_aload_n hC dX7_breaksEven_42 rfl 0 rfl ?_
      refine zo_getR hC (r := 11) fk7_40 (by decide) gr_0_5 at_0 dX7_breaksEven_43 ?_
      refine zo_iload_n hC dX7_breaksEven_46 rfl 1 rfl ?_
      refine zo_iload_n hC dX7_breaksEven_47 rfl 2 rfl ?_
      refine zo_callS_i hC [.int v1, .int v2] [.ref 11] me_X7_stateOf mlX7_178 sm_X7_stateOf (fun p hp => T_X7_stateOf v1 v2 I_2 L_3 p hp) (by decide) rfl (Nat.le_of_ble_eq_true rfl) dX7_breaksEven_48 rfl (fun r_4 => ?_)
      refine zo_callV_i hC (ci := 1) [.int r_4] [] me_X1_choiceIn mlX7_228 im_X1_choiceIn se_X1_choiceIn rfl (by decide) at_11 (fun p hp => T_X1_choiceIn r_4 I_2 L_3 p hp) (by decide) rfl (Nat.le_of_ble_eq_true rfl) dX7_breaksEven_51 rfl (fun r_5 => ?_)
      refine zo_iconst (v := 2) hC (by decide) dX7_breaksEven_54 ?_
      refine zo_icmp_ne (tgt := 61) hC dX7_breaksEven_55 (by decide) (fun c_6 => ?_) (fun c_6 => ?_)
      · refine zo_iinc hC (x := v4) (fun x_7 => [(4, .int x_7), (0, .ref 0), (1, .int v1), (2, .int v2), (3, .int v3)]) dX7_breaksEven_61 4 rfl (by rfl) (by decide) (fun _ => rfl) (fun x_7 => ?_)
        refine zo_goto (tgt := 21) hC dX7_breaksEven_64 (by decide) ?_
        refine zo_sub [1, 2, 3, 4, 0] (lv' := [(0, .ref 0), (1, .int v1), (2, .int v2), (3, .int v3), (4, .int x_7)]) rfl ?_
        exact ih x_7 I_2 L_3
      · refine zo_sub [4] (lv' := [(4, .int v4)]) rfl ?_
        exact hk58 v4 I_2 L_3

def f_X7_breaksEven (v1 : Int32) (v2 : Int32) (v3 : Int32) (I : e_I) (L : e_L) : Option (Int32 × e_I × e_L) :=
  e_b1 (f_X7_troubleOfWay 1 v1 v2 v3 2 I) (fun (r_1 : Int32) =>
  e_b2 (f_X7_refused r_1 I) (fun (r_2 : Int32) (I_3 : e_I) =>
  if r_2 = 0 then (
    f_X7_breaksEven_21 v1 v2 v3 (fun (I_5 : e_I) (L_6 : e_L) =>
      some ((-2), I_5, L_6)) (fun (v4_7 : Int32) (I_8 : e_I) (L_9 : e_L) =>
      some (v4_7, I_8, L_9)) e_FU 0 I_3 L)
  else (
    some ((-1), I_3, L))))
set_option maxRecDepth 100000 in
set_option maxHeartbeats 4000000 in
theorem Zf_X7_breaksEven {X : e_X} (hC : e_C X cX7_breaksEven RX7 5 (some .int) 6 gN) (v1 : Int32) (v2 : Int32) (v3 : Int32) (I : e_I) (L : e_L) : Zo X (ph_iIL) (f_X7_breaksEven v1 v2 v3 I L) 0 [(0, .ref 0), (1, .int v1), (2, .int v2), (3, .int v3)] [] I L := by
  unfold f_X7_breaksEven
  refine zo_aload_n hC dX7_breaksEven_0 rfl 0 rfl ?_
  refine zo_aload_n hC dX7_breaksEven_1 rfl 0 rfl ?_
  refine zo_iconst (v := 1) hC (by decide) dX7_breaksEven_2 ?_
  refine zo_iload_n hC dX7_breaksEven_3 rfl 1 rfl ?_
  refine zo_iload_n hC dX7_breaksEven_4 rfl 2 rfl ?_
  refine zo_iload_n hC dX7_breaksEven_5 rfl 3 rfl ?_
  refine zo_iconst (v := 2) hC (by decide) dX7_breaksEven_6 ?_
  refine zo_callV_i hC (ci := 7) [.int 1, .int v1, .int v2, .int v3, .int 2] [.ref 0] me_X7_troubleOfWay mlX7_235 im_X7_troubleOfWay se_X7_troubleOfWay rfl (by decide) at_0 (fun p hp => T_X7_troubleOfWay 1 v1 v2 v3 2 I L p hp) (by decide) rfl (Nat.le_of_ble_eq_true rfl) dX7_breaksEven_7 rfl (fun r_1 => ?_)
  refine zo_callV_iI hC (ci := 7) [.int r_1] [] me_X7_refused mlX7_70 im_X7_refused se_X7_refused rfl (by decide) at_0 (fun p hp => T_X7_refused r_1 I L p hp) (by decide) rfl (Nat.le_of_ble_eq_true rfl) dX7_breaksEven_10 rfl (fun r_2 I_3 => ?_)
  refine zo_if_eq (tgt := 18) hC dX7_breaksEven_13 (by decide) (fun c_4 => ?_) (fun c_4 => ?_)
  · refine zo_iconst (v := 0) hC (by decide) dX7_breaksEven_18 ?_
    refine zo_istore (lv' := [(4, .int 0), (0, .ref 0), (1, .int v1), (2, .int v2), (3, .int v3)]) hC dX7_breaksEven_19 (by decide) rfl ?_
    refine zo_sub [1, 2, 3, 4, 0] (lv' := [(0, .ref 0), (1, .int v1), (2, .int v2), (3, .int v3), (4, .int 0)]) rfl ?_
    refine Zf_X7_breaksEven_21 hC v1 v2 v3 _ _ (fun I_5 L_6 => ?_) (fun v4_7 I_8 L_9 => ?_) e_FU 0 I_3 L
    · refine zo_bipush (v := (-2)) hC (by decide) dX7_breaksEven_67 ?_
      exact zo_iret hC rfl dX7_breaksEven_69
    · refine zo_iload hC dX7_breaksEven_58 0 rfl ?_
      exact zo_iret hC rfl dX7_breaksEven_60
  · refine zo_iconst (v := (-1)) hC (by decide) dX7_breaksEven_16 ?_
    exact zo_iret hC rfl dX7_breaksEven_17

theorem T_X7_breaksEven (v1 : Int32) (v2 : Int32) (v3 : Int32) (I : e_I) (L : e_L) (p : Int32 × e_I × e_L) (hp : f_X7_breaksEven v1 v2 v3 I L = some p) : Mt yX7_breaksEven cX7_breaksEven 5 (some .int) 6 gN [.ref 0, .int v1, .int v2, .int v3] I L ((ph_iIL) p) := zo_enter hp (by decide) (Nat.le_of_ble_eq_true rfl) (fun X hC => Zf_X7_breaksEven hC v1 v2 v3 I L)
def f_X1_layTable_31 (g1 : Nat) (v2 : Int32) (v3 : Int32) (k62 : e_I → e_L → Option (e_I × e_L)) : Nat → Int32 → e_I → e_L → Option (e_I × e_L)
  | 0, _, _, _ => none
  | n + 1, v4, I, L =>
    if v4 ≥ (I g1 0) then (
      k62 I L)
    else (
      e_as (e_ix v3 6 = true) (
      e_b1 (f_X0_chanceOf g1 v4 v3 I) (fun (r_3 : Int32) =>
      e_as (e_ix v3 6 = true) (
      e_let (e_ui I 17 v3.toNatClampNeg ((I 17 v3.toNatClampNeg) + r_3)) (fun (I_5 : e_I) =>
      e_let (v4 + 1) (fun (x_6 : Int32) =>
      f_X1_layTable_31 g1 v2 v3 k62 n x_6 I_5 L))))))
set_option maxRecDepth 100000 in
set_option maxHeartbeats 4000000 in
theorem Zf_X1_layTable_31 {X : e_X} (hC : e_C X cX1_layTable RX1 5 none 3 gN) (g1 : Nat) (hg1 : e_isG g1) (v2 : Int32) (v3 : Int32) (k62 : e_I → e_L → Option (e_I × e_L)) (hk62 : ∀ (I : e_I) (L : e_L), Zo X (ph_vIL) (k62 I L) 62 [(0, .ref 11), (1, .ref g1), (2, .int v2), (3, .int v3)] [] I L) : ∀ (n : Nat) (v4 : Int32) (I : e_I) (L : e_L), Zo X (ph_vIL) (f_X1_layTable_31 g1 v2 v3 k62 n v4 I L) 31 [(0, .ref 11), (1, .ref g1), (2, .int v2), (3, .int v3), (4, .int v4)] [] I L := by
  intro n
  induction n with
  | zero => intro v4 I L p hp; cases hp
  | succ n ih =>
    intro v4 I L
    unfold f_X1_layTable_31
    refine zo_iload hC dX1_layTable_31 4 rfl ?_
    refine zo_aload_n hC dX1_layTable_33 rfl 1 rfl ?_
    refine zo_getI hC fk1_75 (atG hg1) dX1_layTable_34 ?_
    refine zo_icmp_ge (tgt := 62) hC dX1_layTable_37 (by decide) (fun c_1 => ?_) (fun c_1 => ?_)
    · refine zo_sub [0, 1, 2, 3] (lv' := [(0, .ref 11), (1, .ref g1), (2, .int v2), (3, .int v3)]) rfl ?_
      exact hk62 I L
    · refine zo_aload_n hC dX1_layTable_40 rfl 0 rfl ?_
      refine zo_getR hC (r := 17) fk1_25 (by decide) gr_11_3 at_11 dX1_layTable_41 ?_
      refine zo_iload_n hC dX1_layTable_44 rfl 3 rfl ?_
      refine zo_dup2 hC rfl rfl dX1_layTable_45 ?_
      refine zo_as (fun h_2 => ?_)
      refine zo_iald hC ar_17 (e_ix_vp h_2) dX1_layTable_46 ?_
      refine zo_aload_n hC dX1_layTable_47 rfl 1 rfl ?_
      refine zo_iload hC dX1_layTable_48 4 rfl ?_
      refine zo_iload_n hC dX1_layTable_50 rfl 3 rfl ?_
      refine zo_callV_i hC (ci := 0) [.int v4, .int v3] [.int (I 17 v3.toNatClampNeg), .int v3, .ref 17] me_X0_chanceOf mlX1_36 im_X0_chanceOf se_X0_chanceOf rfl (by decide) (atG hg1) (fun p hp => T_X0_chanceOf g1 hg1 v4 v3 I L p hp) (by decide) rfl (Nat.le_of_ble_eq_true rfl) dX1_layTable_51 rfl (fun r_3 => ?_)
      refine zo_iadd hC dX1_layTable_54 ?_
      refine zo_as (fun h_4 => ?_)
      refine zo_iast hC ar_17 (e_ix_vp h_4) dX1_layTable_55 ?_
      refine zo_topI (fun I_5 => ?_)
      refine zo_iinc hC (x := v4) (fun x_6 => [(4, .int x_6), (0, .ref 11), (1, .ref g1), (2, .int v2), (3, .int v3)]) dX1_layTable_56 4 rfl (by rfl) (by decide) (fun _ => rfl) (fun x_6 => ?_)
      refine zo_goto (tgt := 31) hC dX1_layTable_59 (by decide) ?_
      refine zo_sub [1, 2, 3, 4, 0] (lv' := [(0, .ref 11), (1, .ref g1), (2, .int v2), (3, .int v3), (4, .int x_6)]) rfl ?_
      exact ih x_6 I_5 L

def f_X1_layTable_15 (g1 : Nat) (v2 : Int32) (k68 : e_I → e_L → Option (e_I × e_L)) : Nat → Int32 → e_I → e_L → Option (e_I × e_L)
  | 0, _, _, _ => none
  | n + 1, v3, I, L =>
    if v3 ≥ 6 then (
      k68 I L)
    else (
      e_as (e_ix v3 6 = true) (
      e_let (e_ui I 17 v3.toNatClampNeg 0) (fun (I_3 : e_I) =>
      f_X1_layTable_31 g1 v2 v3 (fun (I_4 : e_I) (L_5 : e_L) =>
        e_let (v3 + 1) (fun (x_6 : Int32) =>
        f_X1_layTable_15 g1 v2 k68 n x_6 I_4 L_5)) e_FU 0 I_3 L)))
set_option maxRecDepth 100000 in
set_option maxHeartbeats 4000000 in
theorem Zf_X1_layTable_15 {X : e_X} (hC : e_C X cX1_layTable RX1 5 none 3 gN) (g1 : Nat) (hg1 : e_isG g1) (v2 : Int32) (k68 : e_I → e_L → Option (e_I × e_L)) (hk68 : ∀ (I : e_I) (L : e_L), Zo X (ph_vIL) (k68 I L) 68 [(0, .ref 11), (2, .int v2)] [] I L) : ∀ (n : Nat) (v3 : Int32) (I : e_I) (L : e_L), Zo X (ph_vIL) (f_X1_layTable_15 g1 v2 k68 n v3 I L) 15 [(0, .ref 11), (1, .ref g1), (2, .int v2), (3, .int v3)] [] I L := by
  intro n
  induction n with
  | zero => intro v3 I L p hp; cases hp
  | succ n ih =>
    intro v3 I L
    unfold f_X1_layTable_15
    refine zo_iload_n hC dX1_layTable_15 rfl 3 rfl ?_
    refine zo_bipush (v := 6) hC (by decide) dX1_layTable_16 ?_
    refine zo_icmp_ge (tgt := 68) hC dX1_layTable_18 (by decide) (fun c_1 => ?_) (fun c_1 => ?_)
    · refine zo_sub [0, 2] (lv' := [(0, .ref 11), (2, .int v2)]) rfl ?_
      exact hk68 I L
    · refine zo_aload_n hC dX1_layTable_21 rfl 0 rfl ?_
      refine zo_getR hC (r := 17) fk1_25 (by decide) gr_11_3 at_11 dX1_layTable_22 ?_
      refine zo_iload_n hC dX1_layTable_25 rfl 3 rfl ?_
      refine zo_iconst (v := 0) hC (by decide) dX1_layTable_26 ?_
      refine zo_as (fun h_2 => ?_)
      refine zo_iast hC ar_17 (e_ix_vp h_2) dX1_layTable_27 ?_
      refine zo_topI (fun I_3 => ?_)
      refine zo_iconst (v := 0) hC (by decide) dX1_layTable_28 ?_
      refine zo_istore (lv' := [(4, .int 0), (0, .ref 11), (1, .ref g1), (2, .int v2), (3, .int v3)]) hC dX1_layTable_29 (by decide) rfl ?_
      refine zo_sub [1, 2, 3, 4, 0] (lv' := [(0, .ref 11), (1, .ref g1), (2, .int v2), (3, .int v3), (4, .int 0)]) rfl ?_
      refine Zf_X1_layTable_31 hC g1 hg1 v2 v3 _ (fun I_4 L_5 => ?_) e_FU 0 I_3 L
      · refine zo_iinc hC (x := v3) (fun x_6 => [(3, .int x_6), (0, .ref 11), (1, .ref g1), (2, .int v2)]) dX1_layTable_62 3 rfl (by rfl) (by decide) (fun _ => rfl) (fun x_6 => ?_)
        refine zo_goto (tgt := 15) hC dX1_layTable_65 (by decide) ?_
        refine zo_sub [1, 2, 3, 0] (lv' := [(0, .ref 11), (1, .ref g1), (2, .int v2), (3, .int x_6)]) rfl ?_
        exact ih x_6 I_4 L_5

def f_X1_layTable_70 (g1 : Nat) (v2 : Int32) (k86 : e_I → e_L → Option (e_I × e_L)) : Nat → Int32 → e_I → e_L → Option (e_I × e_L)
  | 0, _, _, _ => none
  | n + 1, v3, I, L =>
    if v3 > v2 then (
      k86 I L)
    else (
      e_b1 (f_X1_fillRow v3 I L) (fun (L_2 : e_L) =>
      e_let (v3 + 1) (fun (x_3 : Int32) =>
      f_X1_layTable_70 g1 v2 k86 n x_3 I L_2)))
set_option maxRecDepth 100000 in
set_option maxHeartbeats 4000000 in
theorem Zf_X1_layTable_70 {X : e_X} (hC : e_C X cX1_layTable RX1 5 none 3 gN) (g1 : Nat) (hg1 : e_isG g1) (v2 : Int32) (k86 : e_I → e_L → Option (e_I × e_L)) (hk86 : ∀ (I : e_I) (L : e_L), Zo X (ph_vIL) (k86 I L) 86 [] [] I L) : ∀ (n : Nat) (v3 : Int32) (I : e_I) (L : e_L), Zo X (ph_vIL) (f_X1_layTable_70 g1 v2 k86 n v3 I L) 70 [(0, .ref 11), (2, .int v2), (3, .int v3)] [] I L := by
  intro n
  induction n with
  | zero => intro v3 I L p hp; cases hp
  | succ n ih =>
    intro v3 I L
    unfold f_X1_layTable_70
    refine zo_iload_n hC dX1_layTable_70 rfl 2 rfl ?_
    refine zo_iload_n hC dX1_layTable_71 rfl 1 rfl ?_
    refine zo_icmp_gt (tgt := 86) hC dX1_layTable_72 (by decide) (fun c_1 => ?_) (fun c_1 => ?_)
    · refine zo_sub [] (lv' := []) rfl ?_
      exact hk86 I L
    · refine zo_aload_n hC dX1_layTable_75 rfl 0 rfl ?_
      refine zo_iload_n hC dX1_layTable_76 rfl 2 rfl ?_
      refine zo_callV_vL hC (ci := 1) [.int v3] [] me_X1_fillRow mlX1_59 im_X1_fillRow se_X1_fillRow rfl (by decide) at_11 (fun p hp => T_X1_fillRow v3 I L p hp) (by decide) rfl (Nat.le_of_ble_eq_true rfl) dX1_layTable_77 rfl (fun L_2 => ?_)
      refine zo_iinc hC (x := v3) (fun x_3 => [(3, .int x_3), (0, .ref 11), (2, .int v2)]) dX1_layTable_80 2 rfl (by rfl) (by decide) (fun _ => rfl) (fun x_3 => ?_)
      refine zo_goto (tgt := 70) hC dX1_layTable_83 (by decide) ?_
      refine zo_sub [1, 2, 0] (lv' := [(0, .ref 11), (2, .int v2), (3, .int x_3)]) rfl ?_
      exact ih x_3 I L_2

def f_X1_layTable (g1 : Nat) (v2 : Int32) (I : e_I) (L : e_L) : Option (e_I × e_L) :=
  e_b1 (f_X1_scaleBy ((20 : Int64) * ((I g1 0).toInt64)) L) (fun (L_1 : e_L) =>
  f_X1_layTable_15 g1 v2 (fun (I_2 : e_I) (L_3 : e_L) =>
    f_X1_layTable_70 g1 v2 (fun (I_4 : e_I) (L_5 : e_L) =>
      some (I_4, L_5)) e_FU 1 I_2 L_3) e_FU 0 I L_1)
set_option maxRecDepth 100000 in
set_option maxHeartbeats 4000000 in
theorem Zf_X1_layTable {X : e_X} (hC : e_C X cX1_layTable RX1 5 none 3 gN) (g1 : Nat) (hg1 : e_isG g1) (v2 : Int32) (I : e_I) (L : e_L) : Zo X (ph_vIL) (f_X1_layTable g1 v2 I L) 0 [(0, .ref 11), (1, .ref g1), (2, .int v2)] [] I L := by
  unfold f_X1_layTable
  refine zo_aload_n hC dX1_layTable_0 rfl 0 rfl ?_
  refine zo_ldc2 (v := 20) hC clX1_45 dX1_layTable_1 ?_
  refine zo_aload_n hC dX1_layTable_4 rfl 1 rfl ?_
  refine zo_getI hC fk1_75 (atG hg1) dX1_layTable_5 ?_
  refine zo_i2l hC dX1_layTable_8 ?_
  refine zo_lmul hC dX1_layTable_9 ?_
  refine zo_callV_vL hC (ci := 1) [.long ((20 : Int64) * ((I g1 0).toInt64))] [] me_X1_scaleBy mlX1_47 im_X1_scaleBy se_X1_scaleBy rfl (by decide) at_11 (fun p hp => T_X1_scaleBy ((20 : Int64) * ((I g1 0).toInt64)) I L p hp) (by decide) rfl (Nat.le_of_ble_eq_true rfl) dX1_layTable_10 rfl (fun L_1 => ?_)
  refine zo_iconst (v := 0) hC (by decide) dX1_layTable_13 ?_
  refine zo_istore_n (lv' := [(3, .int 0), (0, .ref 11), (1, .ref g1), (2, .int v2)]) hC dX1_layTable_14 rfl (by decide) rfl ?_
  refine zo_sub [1, 2, 3, 0] (lv' := [(0, .ref 11), (1, .ref g1), (2, .int v2), (3, .int 0)]) rfl ?_
  refine Zf_X1_layTable_15 hC g1 hg1 v2 _ (fun I_2 L_3 => ?_) e_FU 0 I L_1
  · refine zo_iconst (v := 1) hC (by decide) dX1_layTable_68 ?_
    refine zo_istore_n (lv' := [(3, .int 1), (0, .ref 11), (2, .int v2)]) hC dX1_layTable_69 rfl (by decide) rfl ?_
    refine zo_sub [1, 2, 0] (lv' := [(0, .ref 11), (2, .int v2), (3, .int 1)]) rfl ?_
    refine Zf_X1_layTable_70 hC g1 hg1 v2 _ (fun I_4 L_5 => ?_) e_FU 1 I_2 L_3
    · exact zo_vret hC rfl dX1_layTable_86

theorem T_X1_layTable (g1 : Nat) (hg1 : e_isG g1) (v2 : Int32) (I : e_I) (L : e_L) (p : e_I × e_L) (hp : f_X1_layTable g1 v2 I L = some p) : Mt yX1_layTable cX1_layTable 5 none 3 gN [.ref 11, .ref g1, .int v2] I L ((ph_vIL) p) := zo_enter hp (by decide) (Nat.le_of_ble_eq_true rfl) (fun X hC => Zf_X1_layTable hC g1 hg1 v2 I L)
def f_X1_tableAt_34 (L : e_L) (s0 : Int64) : Option (Int64) :=
  some s0
set_option maxRecDepth 100000 in
set_option maxHeartbeats 4000000 in
theorem Zf_X1_tableAt_34 {X : e_X} (hC : e_C X cX1_tableAt RX1 3 (some .long) 1 gN) (I : e_I) (L : e_L) (s0 : Int64) : Zo X (ph_l I L) (f_X1_tableAt_34 L s0) 34 [] [.long s0] I L := by
  unfold f_X1_tableAt_34
  exact zo_lret hC rfl dX1_tableAt_34

def f_X1_tableAt_33 (L : e_L) : Option (Int64) :=
  f_X1_tableAt_34 L 0
set_option maxRecDepth 100000 in
set_option maxHeartbeats 4000000 in
theorem Zf_X1_tableAt_33 {X : e_X} (hC : e_C X cX1_tableAt RX1 3 (some .long) 1 gN) (I : e_I) (L : e_L) : Zo X (ph_l I L) (f_X1_tableAt_33 L) 33 [] [] I L := by
  unfold f_X1_tableAt_33
  refine zo_lconst (v := 0) hC (by decide) dX1_tableAt_33 ?_
  exact Zf_X1_tableAt_34 hC I L 0

def f_X1_tableAt (v1 : Int32) (v2 : Int32) (L : e_L) : Option (Int64) :=
  e_b1 (f_X7_within v1 0 5) (fun (r_1 : Int32) =>
  if r_1 = 0 then (
    f_X1_tableAt_33 L )
  else (
    e_b1 (f_X7_within v2 0 24) (fun (r_3 : Int32) =>
    if r_3 = 0 then (
      f_X1_tableAt_33 L )
    else (
      e_as (e_ix ((v1 * 25) + v2) 150 = true) (
      f_X1_tableAt_34 L (L 15 ((v1 * 25) + v2).toNatClampNeg))))))
set_option maxRecDepth 100000 in
set_option maxHeartbeats 4000000 in
theorem Zf_X1_tableAt {X : e_X} (hC : e_C X cX1_tableAt RX1 3 (some .long) 1 gN) (v1 : Int32) (v2 : Int32) (I : e_I) (L : e_L) : Zo X (ph_l I L) (f_X1_tableAt v1 v2 L) 0 [(0, .ref 11), (1, .int v1), (2, .int v2)] [] I L := by
  unfold f_X1_tableAt
  refine zo_iload_n hC dX1_tableAt_0 rfl 1 rfl ?_
  refine zo_iconst (v := 0) hC (by decide) dX1_tableAt_1 ?_
  refine zo_iconst (v := 5) hC (by decide) dX1_tableAt_2 ?_
  refine zo_callSN_i hC [.int v1, .int 0, .int 5] [] me_X7_within (List.mem_of_getElem? (i := 7) rfl) sm_X7_within (fun p hp => T_X7_within v1 0 5 I L p hp) (by decide) rfl (Nat.le_of_ble_eq_true rfl) dX1_tableAt_3 rfl (fun r_1 => ?_)
  refine zo_if_eq (tgt := 33) hC dX1_tableAt_6 (by decide) (fun c_2 => ?_) (fun c_2 => ?_)
  · refine zo_sub [] (lv' := []) rfl ?_
    exact Zf_X1_tableAt_33 hC I L 
  · refine zo_iload_n hC dX1_tableAt_9 rfl 2 rfl ?_
    refine zo_iconst (v := 0) hC (by decide) dX1_tableAt_10 ?_
    refine zo_bipush (v := 24) hC (by decide) dX1_tableAt_11 ?_
    refine zo_callSN_i hC [.int v2, .int 0, .int 24] [] me_X7_within (List.mem_of_getElem? (i := 7) rfl) sm_X7_within (fun p hp => T_X7_within v2 0 24 I L p hp) (by decide) rfl (Nat.le_of_ble_eq_true rfl) dX1_tableAt_13 rfl (fun r_3 => ?_)
    refine zo_if_eq (tgt := 33) hC dX1_tableAt_16 (by decide) (fun c_4 => ?_) (fun c_4 => ?_)
    · refine zo_sub [] (lv' := []) rfl ?_
      exact Zf_X1_tableAt_33 hC I L 
    · refine zo_aload_n hC dX1_tableAt_19 rfl 0 rfl ?_
      refine zo_getR hC (r := 15) fk1_18 (by decide) gr_11_1 at_11 dX1_tableAt_20 ?_
      refine zo_iload_n hC dX1_tableAt_23 rfl 1 rfl ?_
      refine zo_bipush (v := 25) hC (by decide) dX1_tableAt_24 ?_
      refine zo_imul hC dX1_tableAt_26 ?_
      refine zo_iload_n hC dX1_tableAt_27 rfl 2 rfl ?_
      refine zo_iadd hC dX1_tableAt_28 ?_
      refine zo_as (fun h_5 => ?_)
      refine zo_lald hC ar_15 (e_ix_vp h_5) dX1_tableAt_29 ?_
      refine zo_goto (tgt := 34) hC dX1_tableAt_30 (by decide) ?_
      refine zo_sub [] (lv' := []) rfl ?_
      exact Zf_X1_tableAt_34 hC I L (L 15 ((v1 * 25) + v2).toNatClampNeg)

theorem T_X1_tableAt (v1 : Int32) (v2 : Int32) (I : e_I) (L : e_L) (p : Int64) (hp : f_X1_tableAt v1 v2 L = some p) : Mt yX1_tableAt cX1_tableAt 3 (some .long) 1 gN [.ref 11, .int v1, .int v2] I L ((ph_l I L) p) := zo_enter hp (by decide) (Nat.le_of_ble_eq_true rfl) (fun X hC => Zf_X1_tableAt hC v1 v2 I L)
def f_X7_table (v1 : Int32) (v2 : Int32) (v3 : Int32) (v4 : Int32) (I : e_I) (L : e_L) : Option (Int64 × e_I × e_L) :=
  e_b1 (f_X7_isPart v4) (fun (r_1 : Int32) =>
  e_b1 (f_X7_troubleAhead r_1 v1 v2 v3 I) (fun (r_2 : Int32) =>
  e_b2 (f_X7_refused r_2 I) (fun (r_3 : Int32) (I_4 : e_I) =>
  if r_3 = 0 then (
    e_b2 (f_X1_layTable 23 v3 I_4 L) (fun (I_6 : e_I) (L_7 : e_L) =>
    e_b1 (f_X7_stateOf v1 v2) (fun (r_8 : Int32) =>
    e_b1 (f_X1_tableAt v3 r_8 L_7) (fun (r_9 : Int64) =>
    e_b1 (f_X1_unit v3 L_7) (fun (r_10 : Int64) =>
    e_b1 (f_X7_part r_9 r_10 v4) (fun (r_11 : Int64) =>
    some (r_11, I_6, L_7)))))))
  else (
    some ((-1), I_4, L)))))
set_option maxRecDepth 100000 in
set_option maxHeartbeats 4000000 in
theorem Zf_X7_table {X : e_X} (hC : e_C X cX7_table RX7 5 (some .long) 4 gN) (v1 : Int32) (v2 : Int32) (v3 : Int32) (v4 : Int32) (I : e_I) (L : e_L) : Zo X (ph_lIL) (f_X7_table v1 v2 v3 v4 I L) 0 [(0, .ref 0), (1, .int v1), (2, .int v2), (3, .int v3), (4, .int v4)] [] I L := by
  unfold f_X7_table
  refine zo_aload_n hC dX7_table_0 rfl 0 rfl ?_
  refine zo_aload_n hC dX7_table_1 rfl 0 rfl ?_
  refine zo_iload hC dX7_table_2 4 rfl ?_
  refine zo_callS_i hC [.int v4] [.ref 0, .ref 0] me_X7_isPart mlX7_200 sm_X7_isPart (fun p hp => T_X7_isPart v4 I L p hp) (by decide) rfl (Nat.le_of_ble_eq_true rfl) dX7_table_4 rfl (fun r_1 => ?_)
  refine zo_iload_n hC dX7_table_7 rfl 1 rfl ?_
  refine zo_iload_n hC dX7_table_8 rfl 2 rfl ?_
  refine zo_iload_n hC dX7_table_9 rfl 3 rfl ?_
  refine zo_callV_i hC (ci := 7) [.int r_1, .int v1, .int v2, .int v3] [.ref 0] me_X7_troubleAhead mlX7_203 im_X7_troubleAhead se_X7_troubleAhead rfl (by decide) at_0 (fun p hp => T_X7_troubleAhead r_1 v1 v2 v3 I L p hp) (by decide) rfl (Nat.le_of_ble_eq_true rfl) dX7_table_10 rfl (fun r_2 => ?_)
  refine zo_callV_iI hC (ci := 7) [.int r_2] [] me_X7_refused mlX7_70 im_X7_refused se_X7_refused rfl (by decide) at_0 (fun p hp => T_X7_refused r_2 I L p hp) (by decide) rfl (Nat.le_of_ble_eq_true rfl) dX7_table_13 rfl (fun r_3 I_4 => ?_)
  refine zo_if_eq (tgt := 23) hC dX7_table_16 (by decide) (fun c_5 => ?_) (fun c_5 => ?_)
  · refine zo_aload_n hC dX7_table_23 rfl 0 rfl ?_
    refine zo_getR hC (r := 11) fk7_40 (by decide) gr_0_5 at_0 dX7_table_24 ?_
    refine zo_aload_n hC dX7_table_27 rfl 0 rfl ?_
    refine zo_getR hC (r := 23) fk7_23 (by decide) gr_0_2 at_0 dX7_table_28 ?_
    refine zo_iload_n hC dX7_table_31 rfl 3 rfl ?_
    refine zo_callV_vIL hC (ci := 1) [.ref 23, .int v3] [] me_X1_layTable mlX7_239 im_X1_layTable se_X1_layTable rfl (by decide) at_11 (fun p hp => T_X1_layTable 23 isG_23 v3 I_4 L p hp) (by decide) rfl (Nat.le_of_ble_eq_true rfl) dX7_table_32 rfl (fun I_6 L_7 => ?_)
    refine zo_aload_n hC dX7_table_35 rfl 0 rfl ?_
    refine zo_getR hC (r := 11) fk7_40 (by decide) gr_0_5 at_0 dX7_table_36 ?_
    refine zo_iload_n hC dX7_table_39 rfl 3 rfl ?_
    refine zo_iload_n hC dX7_table_40 rfl 1 rfl ?_
    refine zo_iload_n hC dX7_table_41 rfl 2 rfl ?_
    refine zo_callS_i hC [.int v1, .int v2] [.int v3, .ref 11] me_X7_stateOf mlX7_178 sm_X7_stateOf (fun p hp => T_X7_stateOf v1 v2 I_6 L_7 p hp) (by decide) rfl (Nat.le_of_ble_eq_true rfl) dX7_table_42 rfl (fun r_8 => ?_)
    refine zo_callV_l hC (ci := 1) [.int v3, .int r_8] [] me_X1_tableAt mlX7_243 im_X1_tableAt se_X1_tableAt rfl (by decide) at_11 (fun p hp => T_X1_tableAt v3 r_8 I_6 L_7 p hp) (by decide) rfl (Nat.le_of_ble_eq_true rfl) dX7_table_45 rfl (fun r_9 => ?_)
    refine zo_aload_n hC dX7_table_48 rfl 0 rfl ?_
    refine zo_getR hC (r := 11) fk7_40 (by decide) gr_0_5 at_0 dX7_table_49 ?_
    refine zo_iload_n hC dX7_table_52 rfl 3 rfl ?_
    refine zo_callV_l hC (ci := 1) [.int v3] [.long r_9] me_X1_unit mlX7_213 im_X1_unit se_X1_unit rfl (by decide) at_11 (fun p hp => T_X1_unit v3 I_6 L_7 p hp) (by decide) rfl (Nat.le_of_ble_eq_true rfl) dX7_table_53 rfl (fun r_10 => ?_)
    refine zo_iload hC dX7_table_56 4 rfl ?_
    refine zo_callS_l hC [.long r_9, .long r_10, .int v4] [] me_X7_part mlX7_217 sm_X7_part (fun p hp => T_X7_part r_9 r_10 v4 I_6 L_7 p hp) (by decide) rfl (Nat.le_of_ble_eq_true rfl) dX7_table_58 rfl (fun r_11 => ?_)
    exact zo_lret hC rfl dX7_table_61
  · refine zo_ldc2 (v := (-1)) hC clX7_207 dX7_table_19 ?_
    exact zo_lret hC rfl dX7_table_22

theorem T_X7_table (v1 : Int32) (v2 : Int32) (v3 : Int32) (v4 : Int32) (I : e_I) (L : e_L) (p : Int64 × e_I × e_L) (hp : f_X7_table v1 v2 v3 v4 I L = some p) : Mt yX7_table cX7_table 5 (some .long) 4 gN [.ref 0, .int v1, .int v2, .int v3, .int v4] I L ((ph_lIL) p) := zo_enter hp (by decide) (Nat.le_of_ble_eq_true rfl) (fun X hC => Zf_X7_table hC v1 v2 v3 v4 I L)
def f_X7_troubleOfDepth_11 (I : e_I) : Option (Int32) :=
  some 1
set_option maxRecDepth 100000 in
set_option maxHeartbeats 4000000 in
theorem Zf_X7_troubleOfDepth_11 {X : e_X} (hC : e_C X cX7_troubleOfDepth RX7 4 (some .int) 1 gN) (I : e_I) (L : e_L) : Zo X (ph_i I L) (f_X7_troubleOfDepth_11 I) 11 [] [] I L := by
  unfold f_X7_troubleOfDepth_11
  refine zo_iconst (v := 1) hC (by decide) dX7_troubleOfDepth_11 ?_
  exact zo_iret hC rfl dX7_troubleOfDepth_12

def f_X7_troubleOfDepth_27 (I : e_I) (s0 : Int32) : Option (Int32) :=
  some s0
set_option maxRecDepth 100000 in
set_option maxHeartbeats 4000000 in
theorem Zf_X7_troubleOfDepth_27 {X : e_X} (hC : e_C X cX7_troubleOfDepth RX7 4 (some .int) 1 gN) (I : e_I) (L : e_L) (s0 : Int32) : Zo X (ph_i I L) (f_X7_troubleOfDepth_27 I s0) 27 [] [.int s0] I L := by
  unfold f_X7_troubleOfDepth_27
  exact zo_iret hC rfl dX7_troubleOfDepth_27

def f_X7_troubleOfDepth (v1 : Int32) (v2 : Int32) (v3 : Int32) (I : e_I) : Option (Int32) :=
  e_b1 (f_X7_hasText I) (fun (r_1 : Int32) =>
  if r_1 = 0 then (
    f_X7_troubleOfDepth_11 I )
  else (
    if v1 ≠ 0 then (
      e_b1 (f_X7_within v2 1 v3) (fun (r_4 : Int32) =>
      if r_4 = 0 then (
        f_X7_troubleOfDepth_27 I 2)
      else (
        f_X7_troubleOfDepth_27 I 0)))
    else (
      f_X7_troubleOfDepth_11 I )))
set_option maxRecDepth 100000 in
set_option maxHeartbeats 4000000 in
theorem Zf_X7_troubleOfDepth {X : e_X} (hC : e_C X cX7_troubleOfDepth RX7 4 (some .int) 1 gN) (v1 : Int32) (v2 : Int32) (v3 : Int32) (I : e_I) (L : e_L) : Zo X (ph_i I L) (f_X7_troubleOfDepth v1 v2 v3 I) 0 [(0, .ref 0), (1, .int v1), (2, .int v2), (3, .int v3)] [] I L := by
  unfold f_X7_troubleOfDepth
  refine zo_aload_n hC dX7_troubleOfDepth_0 rfl 0 rfl ?_
  refine zo_callV_i hC (ci := 7) [] [] me_X7_hasText mlX7_110 im_X7_hasText se_X7_hasText rfl (by decide) at_0 (fun p hp => T_X7_hasText I L p hp) (by decide) rfl (Nat.le_of_ble_eq_true rfl) dX7_troubleOfDepth_1 rfl (fun r_1 => ?_)
  refine zo_if_eq (tgt := 11) hC dX7_troubleOfDepth_4 (by decide) (fun c_2 => ?_) (fun c_2 => ?_)
  · refine zo_sub [] (lv' := []) rfl ?_
    exact Zf_X7_troubleOfDepth_11 hC I L 
  · refine zo_iload_n hC dX7_troubleOfDepth_7 rfl 1 rfl ?_
    refine zo_if_ne (tgt := 13) hC dX7_troubleOfDepth_8 (by decide) (fun c_3 => ?_) (fun c_3 => ?_)
    · refine zo_iload_n hC dX7_troubleOfDepth_13 rfl 2 rfl ?_
      refine zo_iconst (v := 1) hC (by decide) dX7_troubleOfDepth_14 ?_
      refine zo_iload_n hC dX7_troubleOfDepth_15 rfl 3 rfl ?_
      refine zo_callS_i hC [.int v2, .int 1, .int v3] [] me_X7_within mlX7_66 sm_X7_within (fun p hp => T_X7_within v2 1 v3 I L p hp) (by decide) rfl (Nat.le_of_ble_eq_true rfl) dX7_troubleOfDepth_16 rfl (fun r_4 => ?_)
      refine zo_if_eq (tgt := 26) hC dX7_troubleOfDepth_19 (by decide) (fun c_5 => ?_) (fun c_5 => ?_)
      · refine zo_iconst (v := 2) hC (by decide) dX7_troubleOfDepth_26 ?_
        refine zo_sub [] (lv' := []) rfl ?_
        exact Zf_X7_troubleOfDepth_27 hC I L 2
      · refine zo_iconst (v := 0) hC (by decide) dX7_troubleOfDepth_22 ?_
        refine zo_goto (tgt := 27) hC dX7_troubleOfDepth_23 (by decide) ?_
        refine zo_sub [] (lv' := []) rfl ?_
        exact Zf_X7_troubleOfDepth_27 hC I L 0
    · refine zo_sub [] (lv' := []) rfl ?_
      exact Zf_X7_troubleOfDepth_11 hC I L 

theorem T_X7_troubleOfDepth (v1 : Int32) (v2 : Int32) (v3 : Int32) (I : e_I) (L : e_L) (p : Int32) (hp : f_X7_troubleOfDepth v1 v2 v3 I = some p) : Mt yX7_troubleOfDepth cX7_troubleOfDepth 4 (some .int) 1 gN [.ref 0, .int v1, .int v2, .int v3] I L ((ph_i I L) p) := zo_enter hp (by decide) (Nat.le_of_ble_eq_true rfl) (fun X hC => Zf_X7_troubleOfDepth hC v1 v2 v3 I L)
def f_X3_worthNow (g2 : Nat) (v3 : Int32) (I : e_I) (L : e_L) : Option (Int64 × e_I × e_L) :=
  e_b3 (f_X1_plainMean g2 0 0 v3 0 I L) (fun (r_1 : Int64) (I_2 : e_I) (L_3 : e_L) =>
  some (r_1, I_2, L_3))
set_option maxRecDepth 100000 in
set_option maxHeartbeats 4000000 in
theorem Zf_X3_worthNow {X : e_X} (hC : e_C X cX3_worthNow RX3 4 (some .long) 4 gN) (g2 : Nat) (hg2 : e_isG g2) (v3 : Int32) (I : e_I) (L : e_L) : Zo X (ph_lIL) (f_X3_worthNow g2 v3 I L) 0 [(0, .ref 19), (1, .ref 11), (2, .ref g2), (3, .int v3)] [] I L := by
  unfold f_X3_worthNow
  refine zo_aload_n hC dX3_worthNow_0 rfl 1 rfl ?_
  refine zo_aload_n hC dX3_worthNow_1 rfl 2 rfl ?_
  refine zo_iconst (v := 0) hC (by decide) dX3_worthNow_2 ?_
  refine zo_iconst (v := 0) hC (by decide) dX3_worthNow_3 ?_
  refine zo_iload_n hC dX3_worthNow_4 rfl 3 rfl ?_
  refine zo_iconst (v := 0) hC (by decide) dX3_worthNow_5 ?_
  refine zo_callV_lIL hC (ci := 1) [.ref g2, .int 0, .int 0, .int v3, .int 0] [] me_X1_plainMean mlX3_18 im_X1_plainMean se_X1_plainMean rfl (by decide) at_11 (fun p hp => T_X1_plainMean g2 hg2 0 0 v3 0 I L p hp) (by decide) rfl (Nat.le_of_ble_eq_true rfl) dX3_worthNow_6 rfl (fun r_1 I_2 L_3 => ?_)
  exact zo_lret hC rfl dX3_worthNow_9

theorem T_X3_worthNow (g2 : Nat) (hg2 : e_isG g2) (v3 : Int32) (I : e_I) (L : e_L) (p : Int64 × e_I × e_L) (hp : f_X3_worthNow g2 v3 I L = some p) : Mt yX3_worthNow cX3_worthNow 4 (some .long) 4 gN [.ref 19, .ref 11, .ref g2, .int v3] I L ((ph_lIL) p) := zo_enter hp (by decide) (Nat.le_of_ble_eq_true rfl) (fun X hC => Zf_X3_worthNow hC g2 hg2 v3 I L)
def f_X7_worth (v1 : Int32) (v2 : Int32) (I : e_I) (L : e_L) : Option (Int64 × e_I × e_L) :=
  e_b1 (f_X7_isPart v2) (fun (r_1 : Int32) =>
  e_b1 (f_X7_troubleOfDepth r_1 v1 5 I) (fun (r_2 : Int32) =>
  e_b2 (f_X7_refused r_2 I) (fun (r_3 : Int32) (I_4 : e_I) =>
  if r_3 = 0 then (
    e_b3 (f_X3_worthNow 23 v1 I_4 L) (fun (r_6 : Int64) (I_7 : e_I) (L_8 : e_L) =>
    e_b1 (f_X1_unit v1 L_8) (fun (r_9 : Int64) =>
    e_b1 (f_X7_part r_6 r_9 v2) (fun (r_10 : Int64) =>
    some (r_10, I_7, L_8)))))
  else (
    some ((-1), I_4, L)))))
set_option maxRecDepth 100000 in
set_option maxHeartbeats 4000000 in
theorem Zf_X7_worth {X : e_X} (hC : e_C X cX7_worth RX7 3 (some .long) 5 gN) (v1 : Int32) (v2 : Int32) (I : e_I) (L : e_L) : Zo X (ph_lIL) (f_X7_worth v1 v2 I L) 0 [(0, .ref 0), (1, .int v1), (2, .int v2)] [] I L := by
  unfold f_X7_worth
  refine zo_aload_n hC dX7_worth_0 rfl 0 rfl ?_
  refine zo_aload_n hC dX7_worth_1 rfl 0 rfl ?_
  refine zo_iload_n hC dX7_worth_2 rfl 2 rfl ?_
  refine zo_callS_i hC [.int v2] [.ref 0, .ref 0] me_X7_isPart mlX7_200 sm_X7_isPart (fun p hp => T_X7_isPart v2 I L p hp) (by decide) rfl (Nat.le_of_ble_eq_true rfl) dX7_worth_3 rfl (fun r_1 => ?_)
  refine zo_iload_n hC dX7_worth_6 rfl 1 rfl ?_
  refine zo_iconst (v := 5) hC (by decide) dX7_worth_7 ?_
  refine zo_callV_i hC (ci := 7) [.int r_1, .int v1, .int 5] [.ref 0] me_X7_troubleOfDepth mlX7_252 im_X7_troubleOfDepth se_X7_troubleOfDepth rfl (by decide) at_0 (fun p hp => T_X7_troubleOfDepth r_1 v1 5 I L p hp) (by decide) rfl (Nat.le_of_ble_eq_true rfl) dX7_worth_8 rfl (fun r_2 => ?_)
  refine zo_callV_iI hC (ci := 7) [.int r_2] [] me_X7_refused mlX7_70 im_X7_refused se_X7_refused rfl (by decide) at_0 (fun p hp => T_X7_refused r_2 I L p hp) (by decide) rfl (Nat.le_of_ble_eq_true rfl) dX7_worth_11 rfl (fun r_3 I_4 => ?_)
  refine zo_if_eq (tgt := 21) hC dX7_worth_14 (by decide) (fun c_5 => ?_) (fun c_5 => ?_)
  · refine zo_aload_n hC dX7_worth_21 rfl 0 rfl ?_
    refine zo_getR hC (r := 19) fk7_47 (by decide) gr_0_6 at_0 dX7_worth_22 ?_
    refine zo_aload_n hC dX7_worth_25 rfl 0 rfl ?_
    refine zo_getR hC (r := 11) fk7_40 (by decide) gr_0_5 at_0 dX7_worth_26 ?_
    refine zo_aload_n hC dX7_worth_29 rfl 0 rfl ?_
    refine zo_getR hC (r := 23) fk7_23 (by decide) gr_0_2 at_0 dX7_worth_30 ?_
    refine zo_iload_n hC dX7_worth_33 rfl 1 rfl ?_
    refine zo_callV_lIL hC (ci := 3) [.ref 11, .ref 23, .int v1] [] me_X3_worthNow mlX7_256 im_X3_worthNow se_X3_worthNow rfl (by decide) at_19 (fun p hp => T_X3_worthNow 23 isG_23 v1 I_4 L p hp) (by decide) rfl (Nat.le_of_ble_eq_true rfl) dX7_worth_34 rfl (fun r_6 I_7 L_8 => ?_)
    refine zo_aload_n hC dX7_worth_37 rfl 0 rfl ?_
    refine zo_getR hC (r := 11) fk7_40 (by decide) gr_0_5 at_0 dX7_worth_38 ?_
    refine zo_iload_n hC dX7_worth_41 rfl 1 rfl ?_
    refine zo_callV_l hC (ci := 1) [.int v1] [.long r_6] me_X1_unit mlX7_213 im_X1_unit se_X1_unit rfl (by decide) at_11 (fun p hp => T_X1_unit v1 I_7 L_8 p hp) (by decide) rfl (Nat.le_of_ble_eq_true rfl) dX7_worth_42 rfl (fun r_9 => ?_)
    refine zo_iload_n hC dX7_worth_45 rfl 2 rfl ?_
    refine zo_callS_l hC [.long r_6, .long r_9, .int v2] [] me_X7_part mlX7_217 sm_X7_part (fun p hp => T_X7_part r_6 r_9 v2 I_7 L_8 p hp) (by decide) rfl (Nat.le_of_ble_eq_true rfl) dX7_worth_46 rfl (fun r_10 => ?_)
    exact zo_lret hC rfl dX7_worth_49
  · refine zo_ldc2 (v := (-1)) hC clX7_207 dX7_worth_17 ?_
    exact zo_lret hC rfl dX7_worth_20

theorem T_X7_worth (v1 : Int32) (v2 : Int32) (I : e_I) (L : e_L) (p : Int64 × e_I × e_L) (hp : f_X7_worth v1 v2 I L = some p) : Mt yX7_worth cX7_worth 3 (some .long) 5 gN [.ref 0, .int v1, .int v2] I L ((ph_lIL) p) := zo_enter hp (by decide) (Nat.le_of_ble_eq_true rfl) (fun X hC => Zf_X7_worth hC v1 v2 I L)
def f_X3_compare_53 (I : e_I) (L : e_L) : Option (e_I × e_L) :=
  some (I, L)
set_option maxRecDepth 100000 in
set_option maxHeartbeats 4000000 in
theorem Zf_X3_compare_53 {X : e_X} (hC : e_C X cX3_compare RX3 7 none 0 gN) (I : e_I) (L : e_L) : Zo X (ph_vIL) (f_X3_compare_53 I L) 53 [] [] I L := by
  unfold f_X3_compare_53
  exact zo_vret hC rfl dX3_compare_53

def f_X3_compare_42 (v1 : Int64) (v6 : Int32) (I : e_I) (L : e_L) : Option (e_I × e_L) :=
  e_let (e_ul L 19 3 v1) (fun (L_1 : e_L) =>
  e_let (e_ui I 19 2 v6) (fun (I_2 : e_I) =>
  f_X3_compare_53 I_2 L_1))
set_option maxRecDepth 100000 in
set_option maxHeartbeats 4000000 in
theorem Zf_X3_compare_42 {X : e_X} (hC : e_C X cX3_compare RX3 7 none 0 gN) (v1 : Int64) (v6 : Int32) (I : e_I) (L : e_L) : Zo X (ph_vIL) (f_X3_compare_42 v1 v6 I L) 42 [(0, .ref 19), (1, .long v1), (6, .int v6)] [] I L := by
  unfold f_X3_compare_42
  refine zo_aload_n hC dX3_compare_42 rfl 0 rfl ?_
  refine zo_lload_n hC dX3_compare_43 rfl 1 rfl ?_
  refine zo_putL hC fk3_48 ff3_3 at_19 dX3_compare_44 ?_
  refine zo_topL (fun L_1 => ?_)
  refine zo_aload_n hC dX3_compare_47 rfl 0 rfl ?_
  refine zo_iload hC dX3_compare_48 2 rfl ?_
  refine zo_putI hC fk3_52 ff3_2 at_19 dX3_compare_50 ?_
  refine zo_topI (fun I_2 => ?_)
  refine zo_sub [] (lv' := []) rfl ?_
  exact Zf_X3_compare_53 hC I_2 L_1

def f_X3_compare (v1 : Int64) (v3 : Int32) (v4 : Int32) (v5 : Int32) (I : e_I) (L : e_L) : Option (e_I × e_L) :=
  e_let ((((v3 * 9) + v4) * 9) + v5) (fun (x_1 : Int32) =>
  if (lg_cmp v1 (L 19 3)) > 0 then (
    f_X3_compare_42 v1 x_1 I L)
  else (
    if (lg_cmp v1 (L 19 3)) ≠ 0 then (
      f_X3_compare_53 I L)
    else (
      if x_1 ≥ (I 19 2) then (
        f_X3_compare_53 I L)
      else (
        f_X3_compare_42 v1 x_1 I L))))
set_option maxRecDepth 100000 in
set_option maxHeartbeats 4000000 in
theorem Zf_X3_compare {X : e_X} (hC : e_C X cX3_compare RX3 7 none 0 gN) (v1 : Int64) (v3 : Int32) (v4 : Int32) (v5 : Int32) (I : e_I) (L : e_L) : Zo X (ph_vIL) (f_X3_compare v1 v3 v4 v5 I L) 0 [(0, .ref 19), (1, .long v1), (3, .int v3), (4, .int v4), (5, .int v5)] [] I L := by
  unfold f_X3_compare
  refine zo_iload_n hC dX3_compare_0 rfl 2 rfl ?_
  refine zo_bipush (v := 9) hC (by decide) dX3_compare_1 ?_
  refine zo_imul hC dX3_compare_3 ?_
  refine zo_iload hC dX3_compare_4 3 rfl ?_
  refine zo_iadd hC dX3_compare_6 ?_
  refine zo_bipush (v := 9) hC (by decide) dX3_compare_7 ?_
  refine zo_imul hC dX3_compare_9 ?_
  refine zo_iload hC dX3_compare_10 4 rfl ?_
  refine zo_iadd hC dX3_compare_12 ?_
  refine zo_topi (fun x_1 => ?_)
  refine zo_istore (lv' := [(6, .int x_1), (0, .ref 19), (1, .long v1), (3, .int v3), (4, .int v4), (5, .int v5)]) hC dX3_compare_13 (by decide) rfl ?_
  refine zo_lload_n hC dX3_compare_15 rfl 2 rfl ?_
  refine zo_aload_n hC dX3_compare_16 rfl 1 rfl ?_
  refine zo_getL hC fk3_48 at_19 dX3_compare_17 ?_
  refine zo_lcmp hC dX3_compare_20 ?_
  refine zo_if_gt (tgt := 42) hC dX3_compare_21 (by decide) (fun c_2 => ?_) (fun c_2 => ?_)
  · refine zo_sub [1, 2, 0] (lv' := [(0, .ref 19), (1, .long v1), (6, .int x_1)]) rfl ?_
    exact Zf_X3_compare_42 hC v1 x_1 I L
  · refine zo_lload_n hC dX3_compare_24 rfl 2 rfl ?_
    refine zo_aload_n hC dX3_compare_25 rfl 1 rfl ?_
    refine zo_getL hC fk3_48 at_19 dX3_compare_26 ?_
    refine zo_lcmp hC dX3_compare_29 ?_
    refine zo_if_ne (tgt := 53) hC dX3_compare_30 (by decide) (fun c_3 => ?_) (fun c_3 => ?_)
    · refine zo_sub [] (lv' := []) rfl ?_
      exact Zf_X3_compare_53 hC I L
    · refine zo_iload hC dX3_compare_33 0 rfl ?_
      refine zo_aload_n hC dX3_compare_35 rfl 1 rfl ?_
      refine zo_getI hC fk3_52 at_19 dX3_compare_36 ?_
      refine zo_icmp_ge (tgt := 53) hC dX3_compare_39 (by decide) (fun c_4 => ?_) (fun c_4 => ?_)
      · refine zo_sub [] (lv' := []) rfl ?_
        exact Zf_X3_compare_53 hC I L
      · refine zo_sub [1, 2, 0] (lv' := [(0, .ref 19), (1, .long v1), (6, .int x_1)]) rfl ?_
        exact Zf_X3_compare_42 hC v1 x_1 I L

theorem T_X3_compare (v1 : Int64) (v3 : Int32) (v4 : Int32) (v5 : Int32) (I : e_I) (L : e_L) (p : e_I × e_L) (hp : f_X3_compare v1 v3 v4 v5 I L = some p) : Mt yX3_compare cX3_compare 7 none 0 gN [.ref 19, .long v1, .int v3, .int v4, .int v5] I L ((ph_vIL) p) := zo_enter hp (by decide) (Nat.le_of_ble_eq_true rfl) (fun X hC => Zf_X3_compare hC v1 v3 v4 v5 I L)
def f_X3_fit_34 (s0 : Int32) : Option (Int32) :=
  e_as (s0 = 0 ∨ s0 = 1) (
  some s0)
set_option maxRecDepth 100000 in
set_option maxHeartbeats 4000000 in
theorem Zf_X3_fit_34 {X : e_X} (hC : e_C X cX3_fit RX3 5 (some .boolean) 0 gN) (I : e_I) (L : e_L) (s0 : Int32) : Zo X (ph_i I L) (f_X3_fit_34 s0) 34 [] [.int s0] I L := by
  unfold f_X3_fit_34
  refine zo_as (fun h_1 => ?_)
  exact zo_zret hC h_1 rfl dX3_fit_34

def f_X3_fit_33 : Option (Int32) :=
  f_X3_fit_34 0
set_option maxRecDepth 100000 in
set_option maxHeartbeats 4000000 in
theorem Zf_X3_fit_33 {X : e_X} (hC : e_C X cX3_fit RX3 5 (some .boolean) 0 gN) (I : e_I) (L : e_L) : Zo X (ph_i I L) (f_X3_fit_33) 33 [] [] I L := by
  unfold f_X3_fit_33
  refine zo_iconst (v := 0) hC (by decide) dX3_fit_33 ?_
  exact Zf_X3_fit_34 hC I L 0

def f_X3_fit_26 (s0 : Int32) (s1 : Int32) : Option (Int32) :=
  if s1 ≠ s0 then (
    f_X3_fit_33 )
  else (
    f_X3_fit_34 1)
set_option maxRecDepth 100000 in
set_option maxHeartbeats 4000000 in
theorem Zf_X3_fit_26 {X : e_X} (hC : e_C X cX3_fit RX3 5 (some .boolean) 0 gN) (I : e_I) (L : e_L) (s0 : Int32) (s1 : Int32) : Zo X (ph_i I L) (f_X3_fit_26 s0 s1) 26 [] [.int s0, .int s1] I L := by
  unfold f_X3_fit_26
  refine zo_icmp_ne (tgt := 33) hC dX3_fit_26 (by decide) (fun c_1 => ?_) (fun c_1 => ?_)
  · exact Zf_X3_fit_33 hC I L 
  · refine zo_iconst (v := 1) hC (by decide) dX3_fit_29 ?_
    refine zo_goto (tgt := 34) hC dX3_fit_30 (by decide) ?_
    exact Zf_X3_fit_34 hC I L 1

def f_X3_fit_15 (v1 : Int32) (v2 : Int32) (s0 : Int32) : Option (Int32) :=
  e_as (¬ v1 = 0) (
  if (e_rm v2 v1) ≠ 0 then (
    f_X3_fit_26 0 s0)
  else (
    f_X3_fit_26 1 s0))
set_option maxRecDepth 100000 in
set_option maxHeartbeats 4000000 in
theorem Zf_X3_fit_15 {X : e_X} (hC : e_C X cX3_fit RX3 5 (some .boolean) 0 gN) (I : e_I) (L : e_L) (v1 : Int32) (v2 : Int32) (s0 : Int32) : Zo X (ph_i I L) (f_X3_fit_15 v1 v2 s0) 15 [(1, .int v1), (2, .int v2)] [.int s0] I L := by
  unfold f_X3_fit_15
  refine zo_iload_n hC dX3_fit_15 rfl 1 rfl ?_
  refine zo_iload_n hC dX3_fit_16 rfl 0 rfl ?_
  refine zo_as (fun h_1 => ?_)
  refine zo_irem_ hC h_1 dX3_fit_17 ?_
  refine zo_if_ne (tgt := 25) hC dX3_fit_18 (by decide) (fun c_2 => ?_) (fun c_2 => ?_)
  · refine zo_iconst (v := 0) hC (by decide) dX3_fit_25 ?_
    refine zo_sub [] (lv' := []) rfl ?_
    exact Zf_X3_fit_26 hC I L 0 s0
  · refine zo_iconst (v := 1) hC (by decide) dX3_fit_21 ?_
    refine zo_goto (tgt := 26) hC dX3_fit_22 (by decide) ?_
    refine zo_sub [] (lv' := []) rfl ?_
    exact Zf_X3_fit_26 hC I L 1 s0

def f_X3_fit (v1 : Int32) (v2 : Int32) (v3 : Int32) (v4 : Int32) : Option (Int32) :=
  if v1 ≤ 0 then (
    f_X3_fit_33 )
  else (
    if v3 ≠ v4 then (
      f_X3_fit_15 v1 v2 0)
    else (
      f_X3_fit_15 v1 v2 1))
set_option maxRecDepth 100000 in
set_option maxHeartbeats 4000000 in
theorem Zf_X3_fit {X : e_X} (hC : e_C X cX3_fit RX3 5 (some .boolean) 0 gN) (v1 : Int32) (v2 : Int32) (v3 : Int32) (v4 : Int32) (I : e_I) (L : e_L) : Zo X (ph_i I L) (f_X3_fit v1 v2 v3 v4) 0 [(0, .ref 19), (1, .int v1), (2, .int v2), (3, .int v3), (4, .int v4)] [] I L := by
  unfold f_X3_fit
  refine zo_iload_n hC dX3_fit_0 rfl 1 rfl ?_
  refine zo_if_le (tgt := 33) hC dX3_fit_1 (by decide) (fun c_1 => ?_) (fun c_1 => ?_)
  · refine zo_sub [] (lv' := []) rfl ?_
    exact Zf_X3_fit_33 hC I L 
  · refine zo_iload_n hC dX3_fit_4 rfl 3 rfl ?_
    refine zo_iload hC dX3_fit_5 4 rfl ?_
    refine zo_icmp_ne (tgt := 14) hC dX3_fit_7 (by decide) (fun c_2 => ?_) (fun c_2 => ?_)
    · refine zo_iconst (v := 0) hC (by decide) dX3_fit_14 ?_
      refine zo_sub [1, 2] (lv' := [(1, .int v1), (2, .int v2)]) rfl ?_
      exact Zf_X3_fit_15 hC I L v1 v2 0
    · refine zo_iconst (v := 1) hC (by decide) dX3_fit_10 ?_
      refine zo_goto (tgt := 15) hC dX3_fit_11 (by decide) ?_
      refine zo_sub [1, 2] (lv' := [(1, .int v1), (2, .int v2)]) rfl ?_
      exact Zf_X3_fit_15 hC I L v1 v2 1

theorem T_X3_fit (v1 : Int32) (v2 : Int32) (v3 : Int32) (v4 : Int32) (I : e_I) (L : e_L) (p : Int32) (hp : f_X3_fit v1 v2 v3 v4 = some p) : Mt yX3_fit cX3_fit 5 (some .boolean) 0 gN [.ref 19, .int v1, .int v2, .int v3, .int v4] I L ((ph_i I L) p) := zo_enter hp (by decide) (Nat.le_of_ble_eq_true rfl) (fun X hC => Zf_X3_fit hC v1 v2 v3 v4 I L)
def f_X3_isPicked_2 (I : e_I) (v1 : Int32) (v2 : Int32) (k30 : Unit → Option (Int32)) (k22 : Unit → Option (Int32)) : Nat → Int32 → Option (Int32)
  | 0, _ => none
  | n + 1, v3 =>
    if v3 ≥ v1 then (
      k30 ())
    else (
      if v3 ≥ 3 then (
        k30 ())
      else (
        e_as (e_ix v3 3 = true) (
        if (I 20 v3.toNatClampNeg) ≠ v2 then (
          e_let (v3 + 1) (fun (x_5 : Int32) =>
          f_X3_isPicked_2 I v1 v2 k30 k22 n x_5))
        else (
          k22 ()))))
set_option maxRecDepth 100000 in
set_option maxHeartbeats 4000000 in
theorem Zf_X3_isPicked_2 {X : e_X} (hC : e_C X cX3_isPicked RX3 4 (some .boolean) 0 gN) (I : e_I) (L : e_L) (v1 : Int32) (v2 : Int32) (k30 : Unit → Option (Int32)) (k22 : Unit → Option (Int32)) (hk30 : Zo X (ph_i I L) (k30 ()) 30 [] [] I L) (hk22 : Zo X (ph_i I L) (k22 ()) 22 [] [] I L) : ∀ (n : Nat) (v3 : Int32), Zo X (ph_i I L) (f_X3_isPicked_2 I v1 v2 k30 k22 n v3) 2 [(0, .ref 19), (1, .int v1), (2, .int v2), (3, .int v3)] [] I L := by
  intro n
  induction n with
  | zero => intro v3 p hp; cases hp
  | succ n ih =>
    intro v3
    unfold f_X3_isPicked_2
    refine zo_iload_n hC dX3_isPicked_2 rfl 3 rfl ?_
    refine zo_iload_n hC dX3_isPicked_3 rfl 1 rfl ?_
    refine zo_icmp_ge (tgt := 30) hC dX3_isPicked_4 (by decide) (fun c_1 => ?_) (fun c_1 => ?_)
    · refine zo_sub [] (lv' := []) rfl ?_
      exact hk30
    · refine zo_iload_n hC dX3_isPicked_7 rfl 3 rfl ?_
      refine zo_iconst (v := 3) hC (by decide) dX3_isPicked_8 ?_
      refine zo_icmp_ge (tgt := 30) hC dX3_isPicked_9 (by decide) (fun c_2 => ?_) (fun c_2 => ?_)
      · refine zo_sub [] (lv' := []) rfl ?_
        exact hk30
      · refine zo_aload_n hC dX3_isPicked_12 rfl 0 rfl ?_
        refine zo_getR hC (r := 20) fk3_9 (by decide) gr_19_0 at_19 dX3_isPicked_13 ?_
        refine zo_iload_n hC dX3_isPicked_16 rfl 3 rfl ?_
        refine zo_as (fun h_3 => ?_)
        refine zo_iald hC ar_20 (e_ix_vp h_3) dX3_isPicked_17 ?_
        refine zo_iload_n hC dX3_isPicked_18 rfl 2 rfl ?_
        refine zo_icmp_ne (tgt := 24) hC dX3_isPicked_19 (by decide) (fun c_4 => ?_) (fun c_4 => ?_)
        · refine zo_iinc hC (x := v3) (fun x_5 => [(3, .int x_5), (0, .ref 19), (1, .int v1), (2, .int v2)]) dX3_isPicked_24 3 rfl (by rfl) (by decide) (fun _ => rfl) (fun x_5 => ?_)
          refine zo_goto (tgt := 2) hC dX3_isPicked_27 (by decide) ?_
          refine zo_sub [1, 2, 3, 0] (lv' := [(0, .ref 19), (1, .int v1), (2, .int v2), (3, .int x_5)]) rfl ?_
          exact ih x_5
        · refine zo_sub [] (lv' := []) rfl ?_
          exact hk22

def f_X3_isPicked (v1 : Int32) (v2 : Int32) (I : e_I) : Option (Int32) :=
  f_X3_isPicked_2 I v1 v2 (fun (_ : Unit) =>
    some 0) (fun (_ : Unit) =>
    some 1) e_FU 0
set_option maxRecDepth 100000 in
set_option maxHeartbeats 4000000 in
theorem Zf_X3_isPicked {X : e_X} (hC : e_C X cX3_isPicked RX3 4 (some .boolean) 0 gN) (v1 : Int32) (v2 : Int32) (I : e_I) (L : e_L) : Zo X (ph_i I L) (f_X3_isPicked v1 v2 I) 0 [(0, .ref 19), (1, .int v1), (2, .int v2)] [] I L := by
  unfold f_X3_isPicked
  refine zo_iconst (v := 0) hC (by decide) dX3_isPicked_0 ?_
  refine zo_istore_n (lv' := [(3, .int 0), (0, .ref 19), (1, .int v1), (2, .int v2)]) hC dX3_isPicked_1 rfl (by decide) rfl ?_
  refine zo_sub [1, 2, 3, 0] (lv' := [(0, .ref 19), (1, .int v1), (2, .int v2), (3, .int 0)]) rfl ?_
  refine Zf_X3_isPicked_2 hC I L v1 v2 _ _ ?_ ?_ e_FU 0
  · refine zo_iconst (v := 0) hC (by decide) dX3_isPicked_30 ?_
    exact zo_zret hC (by decide) rfl dX3_isPicked_31
  · refine zo_iconst (v := 1) hC (by decide) dX3_isPicked_22 ?_
    exact zo_zret hC (by decide) rfl dX3_isPicked_23

theorem T_X3_isPicked (v1 : Int32) (v2 : Int32) (I : e_I) (L : e_L) (p : Int32) (hp : f_X3_isPicked v1 v2 I = some p) : Mt yX3_isPicked cX3_isPicked 4 (some .boolean) 0 gN [.ref 19, .int v1, .int v2] I L ((ph_i I L) p) := zo_enter hp (by decide) (Nat.le_of_ble_eq_true rfl) (fun X hC => Zf_X3_isPicked hC v1 v2 I L)
def f_X3_layFound_8 (v1 : Int32) (v2 : Int32) (k35 : e_I → Option (e_I)) : Nat → Int32 → Int32 → e_I → Option (e_I)
  | 0, _, _, _ => none
  | n + 1, v3, v4, I =>
    if v4 < 0 then (
      k35 I)
    else (
      e_as (e_ix v4 3 = true) (
      e_let (e_ui I 20 v4.toNatClampNeg (e_rm v3 9)) (fun (I_3 : e_I) =>
      e_let (v3 / 9) (fun (x_4 : Int32) =>
      e_let (v4 + (-1)) (fun (x_5 : Int32) =>
      f_X3_layFound_8 v1 v2 k35 n x_4 x_5 I_3)))))
set_option maxRecDepth 100000 in
set_option maxHeartbeats 4000000 in
theorem Zf_X3_layFound_8 {X : e_X} (hC : e_C X cX3_layFound RX3 7 none 1 gN) (L : e_L) (v1 : Int32) (v2 : Int32) (k35 : e_I → Option (e_I)) (hk35 : ∀ (I : e_I), Zo X (ph_vI L) (k35 I) 35 [(0, .ref 19), (1, .int v1), (2, .int v2)] [] I L) : ∀ (n : Nat) (v3 : Int32) (v4 : Int32) (I : e_I), Zo X (ph_vI L) (f_X3_layFound_8 v1 v2 k35 n v3 v4 I) 8 [(0, .ref 19), (1, .int v1), (2, .int v2), (3, .int v3), (4, .int v4)] [] I L := by
  intro n
  induction n with
  | zero => intro v3 v4 I p hp; cases hp
  | succ n ih =>
    intro v3 v4 I
    unfold f_X3_layFound_8
    refine zo_iload hC dX3_layFound_8 4 rfl ?_
    refine zo_if_lt (tgt := 35) hC dX3_layFound_10 (by decide) (fun c_1 => ?_) (fun c_1 => ?_)
    · refine zo_sub [0, 1, 2] (lv' := [(0, .ref 19), (1, .int v1), (2, .int v2)]) rfl ?_
      exact hk35 I
    · refine zo_aload_n hC dX3_layFound_13 rfl 0 rfl ?_
      refine zo_getR hC (r := 20) fk3_9 (by decide) gr_19_0 at_19 dX3_layFound_14 ?_
      refine zo_iload hC dX3_layFound_17 4 rfl ?_
      refine zo_iload_n hC dX3_layFound_19 rfl 3 rfl ?_
      refine zo_bipush (v := 9) hC (by decide) dX3_layFound_20 ?_
      refine zo_irem_ hC (by decide) dX3_layFound_22 ?_
      refine zo_as (fun h_2 => ?_)
      refine zo_iast hC ar_20 (e_ix_vp h_2) dX3_layFound_23 ?_
      refine zo_topI (fun I_3 => ?_)
      refine zo_iload_n hC dX3_layFound_24 rfl 3 rfl ?_
      refine zo_bipush (v := 9) hC (by decide) dX3_layFound_25 ?_
      refine zo_idiv hC (by decide) dX3_layFound_27 ?_
      refine zo_topi (fun x_4 => ?_)
      refine zo_istore_n (lv' := [(3, .int x_4), (0, .ref 19), (1, .int v1), (2, .int v2), (4, .int v4)]) hC dX3_layFound_28 rfl (by decide) rfl ?_
      refine zo_iinc hC (x := v4) (fun x_5 => [(4, .int x_5), (3, .int x_4), (0, .ref 19), (1, .int v1), (2, .int v2)]) dX3_layFound_29 4 rfl (by rfl) (by decide) (fun _ => rfl) (fun x_5 => ?_)
      refine zo_goto (tgt := 8) hC dX3_layFound_32 (by decide) ?_
      refine zo_sub [2, 3, 4, 1, 0] (lv' := [(0, .ref 19), (1, .int v1), (2, .int v2), (3, .int x_4), (4, .int x_5)]) rfl ?_
      exact ih x_4 x_5 I_3

def f_X3_layFound_45 (v1 : Int32) (v4 : Int32) (k78 : e_I → Option (e_I)) : Nat → Int32 → e_I → Option (e_I)
  | 0, _, _ => none
  | n + 1, v5, I =>
    if v5 ≥ v4 then (
      k78 I)
    else (
      if v5 ≥ 3 then (
        k78 I)
      else (
        e_as (e_ix v5 3 = true) (
        e_as (e_ix v5 9 = true) (
        e_let (e_ui I 21 v5.toNatClampNeg (I 20 v5.toNatClampNeg)) (fun (I_5 : e_I) =>
        e_let (v5 + 1) (fun (x_6 : Int32) =>
        f_X3_layFound_45 v1 v4 k78 n x_6 I_5))))))
set_option maxRecDepth 100000 in
set_option maxHeartbeats 4000000 in
theorem Zf_X3_layFound_45 {X : e_X} (hC : e_C X cX3_layFound RX3 7 none 1 gN) (L : e_L) (v1 : Int32) (v4 : Int32) (k78 : e_I → Option (e_I)) (hk78 : ∀ (I : e_I), Zo X (ph_vI L) (k78 I) 78 [(0, .ref 19), (1, .int v1), (4, .int v4)] [] I L) : ∀ (n : Nat) (v5 : Int32) (I : e_I), Zo X (ph_vI L) (f_X3_layFound_45 v1 v4 k78 n v5 I) 45 [(0, .ref 19), (1, .int v1), (4, .int v4), (5, .int v5)] [] I L := by
  intro n
  induction n with
  | zero => intro v5 I p hp; cases hp
  | succ n ih =>
    intro v5 I
    unfold f_X3_layFound_45
    refine zo_iload hC dX3_layFound_45 3 rfl ?_
    refine zo_iload hC dX3_layFound_47 2 rfl ?_
    refine zo_icmp_ge (tgt := 78) hC dX3_layFound_49 (by decide) (fun c_1 => ?_) (fun c_1 => ?_)
    · refine zo_sub [0, 1, 2] (lv' := [(0, .ref 19), (1, .int v1), (4, .int v4)]) rfl ?_
      exact hk78 I
    · refine zo_iload hC dX3_layFound_52 3 rfl ?_
      refine zo_iconst (v := 3) hC (by decide) dX3_layFound_54 ?_
      refine zo_icmp_ge (tgt := 78) hC dX3_layFound_55 (by decide) (fun c_2 => ?_) (fun c_2 => ?_)
      · refine zo_sub [0, 1, 2] (lv' := [(0, .ref 19), (1, .int v1), (4, .int v4)]) rfl ?_
        exact hk78 I
      · refine zo_aload_n hC dX3_layFound_58 rfl 0 rfl ?_
        refine zo_getR hC (r := 21) fk3_15 (by decide) gr_19_1 at_19 dX3_layFound_59 ?_
        refine zo_iload hC dX3_layFound_62 3 rfl ?_
        refine zo_aload_n hC dX3_layFound_64 rfl 0 rfl ?_
        refine zo_getR hC (r := 20) fk3_9 (by decide) gr_19_0 at_19 dX3_layFound_65 ?_
        refine zo_iload hC dX3_layFound_68 3 rfl ?_
        refine zo_as (fun h_3 => ?_)
        refine zo_iald hC ar_20 (e_ix_vp h_3) dX3_layFound_70 ?_
        refine zo_as (fun h_4 => ?_)
        refine zo_iast hC ar_21 (e_ix_vp h_4) dX3_layFound_71 ?_
        refine zo_topI (fun I_5 => ?_)
        refine zo_iinc hC (x := v5) (fun x_6 => [(5, .int x_6), (0, .ref 19), (1, .int v1), (4, .int v4)]) dX3_layFound_72 3 rfl (by rfl) (by decide) (fun _ => rfl) (fun x_6 => ?_)
        refine zo_goto (tgt := 45) hC dX3_layFound_75 (by decide) ?_
        refine zo_sub [1, 2, 3, 0] (lv' := [(0, .ref 19), (1, .int v1), (4, .int v4), (5, .int x_6)]) rfl ?_
        exact ih x_6 I_5

def f_X3_layFound_121 (v1 : Int32) (v4 : Int32) (k85 : Int32 → Int32 → e_I → Option (e_I)) (k127 : e_I → Option (e_I)) (v5 : Int32) (v6 : Int32) (I : e_I) : Option (e_I) :=
  e_let (v6 + 1) (fun (x_1 : Int32) =>
  k85 v5 x_1 I)
set_option maxRecDepth 100000 in
set_option maxHeartbeats 4000000 in
theorem Zf_X3_layFound_121 {X : e_X} (hC : e_C X cX3_layFound RX3 7 none 1 gN) (L : e_L) (v1 : Int32) (v4 : Int32) (k85 : Int32 → Int32 → e_I → Option (e_I)) (k127 : e_I → Option (e_I)) (hk85 : ∀ (v5 : Int32) (v6 : Int32) (I : e_I), Zo X (ph_vI L) (k85 v5 v6 I) 85 [(0, .ref 19), (1, .int v1), (4, .int v4), (5, .int v5), (6, .int v6)] [] I L) (hk127 : ∀ (I : e_I), Zo X (ph_vI L) (k127 I) 127 [] [] I L) (v5 : Int32) (v6 : Int32) (I : e_I) : Zo X (ph_vI L) (f_X3_layFound_121 v1 v4 k85 k127 v5 v6 I) 121 [(0, .ref 19), (1, .int v1), (4, .int v4), (5, .int v5), (6, .int v6)] [] I L := by
  unfold f_X3_layFound_121
  refine zo_iinc hC (x := v6) (fun x_1 => [(6, .int x_1), (0, .ref 19), (1, .int v1), (4, .int v4), (5, .int v5)]) dX3_layFound_121 4 rfl (by rfl) (by decide) (fun _ => rfl) (fun x_1 => ?_)
  refine zo_goto (tgt := 85) hC dX3_layFound_124 (by decide) ?_
  refine zo_sub [1, 2, 3, 4, 0] (lv' := [(0, .ref 19), (1, .int v1), (4, .int v4), (5, .int v5), (6, .int x_1)]) rfl ?_
  exact hk85 v5 x_1 I

def f_X3_layFound_85 (v1 : Int32) (v4 : Int32) (k127 : e_I → Option (e_I)) : Nat → Int32 → Int32 → e_I → Option (e_I)
  | 0, _, _, _ => none
  | n + 1, v5, v6, I =>
    if v6 ≥ v1 then (
      k127 I)
    else (
      if v5 ≥ 9 then (
        k127 I)
      else (
        e_b1 (f_X3_isPicked v4 v6 I) (fun (r_3 : Int32) =>
        if r_3 ≠ 0 then (
          f_X3_layFound_121 v1 v4 (fun v5 v6 I => f_X3_layFound_85 v1 v4 k127 n v5 v6 I) k127 v5 v6 I)
        else (
          e_as (e_ix v5 9 = true) (
          e_let (e_ui I 21 v5.toNatClampNeg v6) (fun (I_6 : e_I) =>
          e_let (v5 + 1) (fun (x_7 : Int32) =>
          f_X3_layFound_121 v1 v4 (fun v5 v6 I => f_X3_layFound_85 v1 v4 k127 n v5 v6 I) k127 x_7 v6 I_6)))))))
set_option maxRecDepth 100000 in
set_option maxHeartbeats 4000000 in
theorem Zf_X3_layFound_85 {X : e_X} (hC : e_C X cX3_layFound RX3 7 none 1 gN) (L : e_L) (v1 : Int32) (v4 : Int32) (k127 : e_I → Option (e_I)) (hk127 : ∀ (I : e_I), Zo X (ph_vI L) (k127 I) 127 [] [] I L) : ∀ (n : Nat) (v5 : Int32) (v6 : Int32) (I : e_I), Zo X (ph_vI L) (f_X3_layFound_85 v1 v4 k127 n v5 v6 I) 85 [(0, .ref 19), (1, .int v1), (4, .int v4), (5, .int v5), (6, .int v6)] [] I L := by
  intro n
  induction n with
  | zero => intro v5 v6 I p hp; cases hp
  | succ n ih =>
    intro v5 v6 I
    unfold f_X3_layFound_85
    refine zo_iload hC dX3_layFound_85 4 rfl ?_
    refine zo_iload_n hC dX3_layFound_87 rfl 1 rfl ?_
    refine zo_icmp_ge (tgt := 127) hC dX3_layFound_88 (by decide) (fun c_1 => ?_) (fun c_1 => ?_)
    · refine zo_sub [] (lv' := []) rfl ?_
      exact hk127 I
    · refine zo_iload hC dX3_layFound_91 3 rfl ?_
      refine zo_bipush (v := 9) hC (by decide) dX3_layFound_93 ?_
      refine zo_icmp_ge (tgt := 127) hC dX3_layFound_95 (by decide) (fun c_2 => ?_) (fun c_2 => ?_)
      · refine zo_sub [] (lv' := []) rfl ?_
        exact hk127 I
      · refine zo_aload_n hC dX3_layFound_98 rfl 0 rfl ?_
        refine zo_iload hC dX3_layFound_99 2 rfl ?_
        refine zo_iload hC dX3_layFound_101 4 rfl ?_
        refine zo_callV_i hC (ci := 3) [.int v4, .int v6] [] me_X3_isPicked mlX3_94 im_X3_isPicked se_X3_isPicked rfl (by decide) at_19 (fun p hp => T_X3_isPicked v4 v6 I L p hp) (by decide) rfl (Nat.le_of_ble_eq_true rfl) dX3_layFound_103 rfl (fun r_3 => ?_)
        refine zo_if_ne (tgt := 121) hC dX3_layFound_106 (by decide) (fun c_4 => ?_) (fun c_4 => ?_)
        · exact Zf_X3_layFound_121 hC L v1 v4 (fun v5 v6 I => f_X3_layFound_85 v1 v4 k127 n v5 v6 I) k127 (fun v5 v6 I => ih v5 v6 I) hk127 v5 v6 I
        · refine zo_aload_n hC dX3_layFound_109 rfl 0 rfl ?_
          refine zo_getR hC (r := 21) fk3_15 (by decide) gr_19_1 at_19 dX3_layFound_110 ?_
          refine zo_iload hC dX3_layFound_113 3 rfl ?_
          refine zo_iload hC dX3_layFound_115 4 rfl ?_
          refine zo_as (fun h_5 => ?_)
          refine zo_iast hC ar_21 (e_ix_vp h_5) dX3_layFound_117 ?_
          refine zo_topI (fun I_6 => ?_)
          refine zo_iinc hC (x := v5) (fun x_7 => [(5, .int x_7), (0, .ref 19), (1, .int v1), (4, .int v4), (6, .int v6)]) dX3_layFound_118 3 rfl (by rfl) (by decide) (fun _ => rfl) (fun x_7 => ?_)
          refine zo_sub [1, 2, 3, 0, 4] (lv' := [(0, .ref 19), (1, .int v1), (4, .int v4), (5, .int x_7), (6, .int v6)]) rfl ?_
          exact Zf_X3_layFound_121 hC L v1 v4 (fun v5 v6 I => f_X3_layFound_85 v1 v4 k127 n v5 v6 I) k127 (fun v5 v6 I => ih v5 v6 I) hk127 x_7 v6 I_6

def f_X3_layFound (v1 : Int32) (v2 : Int32) (I : e_I) : Option (e_I) :=
  e_let (I 19 2) (fun (x_1 : Int32) =>
  f_X3_layFound_8 v1 v2 (fun (I_2 : e_I) =>
    e_let (e_min v2 v1) (fun (x_3 : Int32) =>
    f_X3_layFound_45 v1 x_3 (fun (I_4 : e_I) =>
      f_X3_layFound_85 v1 x_3 (fun (I_5 : e_I) =>
        some I_5) e_FU x_3 0 I_4) e_FU 0 I_2)) e_FU x_1 2 I)
set_option maxRecDepth 100000 in
set_option maxHeartbeats 4000000 in
theorem Zf_X3_layFound {X : e_X} (hC : e_C X cX3_layFound RX3 7 none 1 gN) (v1 : Int32) (v2 : Int32) (I : e_I) (L : e_L) : Zo X (ph_vI L) (f_X3_layFound v1 v2 I) 0 [(0, .ref 19), (1, .int v1), (2, .int v2)] [] I L := by
  unfold f_X3_layFound
  refine zo_aload_n hC dX3_layFound_0 rfl 0 rfl ?_
  refine zo_getI hC fk3_52 at_19 dX3_layFound_1 ?_
  refine zo_topi (fun x_1 => ?_)
  refine zo_istore_n (lv' := [(3, .int x_1), (0, .ref 19), (1, .int v1), (2, .int v2)]) hC dX3_layFound_4 rfl (by decide) rfl ?_
  refine zo_iconst (v := 2) hC (by decide) dX3_layFound_5 ?_
  refine zo_istore (lv' := [(4, .int 2), (3, .int x_1), (0, .ref 19), (1, .int v1), (2, .int v2)]) hC dX3_layFound_6 (by decide) rfl ?_
  refine zo_sub [2, 3, 4, 1, 0] (lv' := [(0, .ref 19), (1, .int v1), (2, .int v2), (3, .int x_1), (4, .int 2)]) rfl ?_
  refine Zf_X3_layFound_8 hC L v1 v2 _ (fun I_2 => ?_) e_FU x_1 2 I
  · refine zo_iload_n hC dX3_layFound_35 rfl 2 rfl ?_
    refine zo_iload_n hC dX3_layFound_36 rfl 1 rfl ?_
    refine zo_mmin_ hC mlX3_88 st_mmin in_Math cd_mmin (Nat.le_of_ble_eq_true rfl) dX3_layFound_37 ?_
    refine zo_topi (fun x_3 => ?_)
    refine zo_istore (lv' := [(4, .int x_3), (0, .ref 19), (1, .int v1), (2, .int v2)]) hC dX3_layFound_40 (by decide) rfl ?_
    refine zo_iconst (v := 0) hC (by decide) dX3_layFound_42 ?_
    refine zo_istore (lv' := [(5, .int 0), (4, .int x_3), (0, .ref 19), (1, .int v1), (2, .int v2)]) hC dX3_layFound_43 (by decide) rfl ?_
    refine zo_sub [2, 3, 1, 0] (lv' := [(0, .ref 19), (1, .int v1), (4, .int x_3), (5, .int 0)]) rfl ?_
    refine Zf_X3_layFound_45 hC L v1 x_3 _ (fun I_4 => ?_) e_FU 0 I_2
    · refine zo_iload hC dX3_layFound_78 2 rfl ?_
      refine zo_istore (lv' := [(5, .int x_3), (0, .ref 19), (1, .int v1), (4, .int x_3)]) hC dX3_layFound_80 (by decide) rfl ?_
      refine zo_iconst (v := 0) hC (by decide) dX3_layFound_82 ?_
      refine zo_istore (lv' := [(6, .int 0), (5, .int x_3), (0, .ref 19), (1, .int v1), (4, .int x_3)]) hC dX3_layFound_83 (by decide) rfl ?_
      refine zo_sub [2, 3, 4, 1, 0] (lv' := [(0, .ref 19), (1, .int v1), (4, .int x_3), (5, .int x_3), (6, .int 0)]) rfl ?_
      refine Zf_X3_layFound_85 hC L v1 x_3 _ (fun I_5 => ?_) e_FU x_3 0 I_4
      · exact zo_vret hC rfl dX3_layFound_127

theorem T_X3_layFound (v1 : Int32) (v2 : Int32) (I : e_I) (L : e_L) (p : e_I) (hp : f_X3_layFound v1 v2 I = some p) : Mt yX3_layFound cX3_layFound 7 none 1 gN [.ref 19, .int v1, .int v2] I L ((ph_vI L) p) := zo_enter hp (by decide) (Nat.le_of_ble_eq_true rfl) (fun X hC => Zf_X3_layFound hC v1 v2 I L)
def f_X3_reckon_24 (g2 : Nat) (I : e_I) (L : e_L) : Option (e_I × e_L) :=
  some (I, L)
set_option maxRecDepth 100000 in
set_option maxHeartbeats 4000000 in
theorem Zf_X3_reckon_24 {X : e_X} (hC : e_C X cX3_reckon RX3 6 none 3 gN) (g2 : Nat) (hg2 : e_isG g2) (I : e_I) (L : e_L) : Zo X (ph_vIL) (f_X3_reckon_24 g2 I L) 24 [] [] I L := by
  unfold f_X3_reckon_24
  exact zo_vret hC rfl dX3_reckon_24

def f_X3_reckon (g2 : Nat) (v3 : Int32) (v4 : Int32) (v5 : Int32) (I : e_I) (L : e_L) : Option (e_I × e_L) :=
  if v4 ≥ v5 then (
    f_X3_reckon_24 g2 I L)
  else (
    e_b1 (f_X1_sendUp g2 v3 v4 I) (fun (I_2 : e_I) =>
    e_b1 (f_X1_fillRow (v5 - v4) I_2 L) (fun (L_3 : e_L) =>
    f_X3_reckon_24 g2 I_2 L_3)))
set_option maxRecDepth 100000 in
set_option maxHeartbeats 4000000 in
theorem Zf_X3_reckon {X : e_X} (hC : e_C X cX3_reckon RX3 6 none 3 gN) (g2 : Nat) (hg2 : e_isG g2) (v3 : Int32) (v4 : Int32) (v5 : Int32) (I : e_I) (L : e_L) : Zo X (ph_vIL) (f_X3_reckon g2 v3 v4 v5 I L) 0 [(0, .ref 19), (1, .ref 11), (2, .ref g2), (3, .int v3), (4, .int v4), (5, .int v5)] [] I L := by
  unfold f_X3_reckon
  refine zo_iload hC dX3_reckon_0 4 rfl ?_
  refine zo_iload hC dX3_reckon_2 5 rfl ?_
  refine zo_icmp_ge (tgt := 24) hC dX3_reckon_4 (by decide) (fun c_1 => ?_) (fun c_1 => ?_)
  · refine zo_sub [] (lv' := []) rfl ?_
    exact Zf_X3_reckon_24 hC g2 hg2 I L
  · refine zo_aload_n hC dX3_reckon_7 rfl 1 rfl ?_
    refine zo_aload_n hC dX3_reckon_8 rfl 2 rfl ?_
    refine zo_iload_n hC dX3_reckon_9 rfl 3 rfl ?_
    refine zo_iload hC dX3_reckon_10 4 rfl ?_
    refine zo_callV_vI hC (ci := 1) [.ref g2, .int v3, .int v4] [] me_X1_sendUp mlX3_69 im_X1_sendUp se_X1_sendUp rfl (by decide) at_11 (fun p hp => T_X1_sendUp g2 hg2 v3 v4 I L p hp) (by decide) rfl (Nat.le_of_ble_eq_true rfl) dX3_reckon_12 rfl (fun I_2 => ?_)
    refine zo_aload_n hC dX3_reckon_15 rfl 1 rfl ?_
    refine zo_iload hC dX3_reckon_16 5 rfl ?_
    refine zo_iload hC dX3_reckon_18 4 rfl ?_
    refine zo_isub hC dX3_reckon_20 ?_
    refine zo_callV_vL hC (ci := 1) [.int (v5 - v4)] [] me_X1_fillRow mlX3_84 im_X1_fillRow se_X1_fillRow rfl (by decide) at_11 (fun p hp => T_X1_fillRow (v5 - v4) I_2 L p hp) (by decide) rfl (Nat.le_of_ble_eq_true rfl) dX3_reckon_21 rfl (fun L_3 => ?_)
    refine zo_sub [] (lv' := []) rfl ?_
    exact Zf_X3_reckon_24 hC g2 hg2 I_2 L_3

theorem T_X3_reckon (g2 : Nat) (hg2 : e_isG g2) (v3 : Int32) (v4 : Int32) (v5 : Int32) (I : e_I) (L : e_L) (p : e_I × e_L) (hp : f_X3_reckon g2 v3 v4 v5 I L = some p) : Mt yX3_reckon cX3_reckon 6 none 3 gN [.ref 19, .ref 11, .ref g2, .int v3, .int v4, .int v5] I L ((ph_vIL) p) := zo_enter hp (by decide) (Nat.le_of_ble_eq_true rfl) (fun X hC => Zf_X3_reckon hC g2 hg2 v3 v4 v5 I L)
def f_X3_seek_179 (g2 : Nat) (v3 : Int32) (v4 : Int32) (v5 : Int32) (v6 : Int32) (k108 : Int32 → e_I → e_L → Option (e_I × e_L)) (k185 : e_I → e_L → Option (e_I × e_L)) (v7 : Int32) (I : e_I) (L : e_L) : Option (e_I × e_L) :=
  e_let (v7 + 1) (fun (x_1 : Int32) =>
  k108 x_1 I L)
set_option maxRecDepth 100000 in
set_option maxHeartbeats 4000000 in
theorem Zf_X3_seek_179 {X : e_X} (hC : e_C X cX3_seek RX3 8 none 4 gN) (g2 : Nat) (hg2 : e_isG g2) (v3 : Int32) (v4 : Int32) (v5 : Int32) (v6 : Int32) (k108 : Int32 → e_I → e_L → Option (e_I × e_L)) (k185 : e_I → e_L → Option (e_I × e_L)) (hk108 : ∀ (v7 : Int32) (I : e_I) (L : e_L), Zo X (ph_vIL) (k108 v7 I L) 108 [(0, .ref 19), (1, .ref 11), (2, .ref g2), (3, .int v3), (4, .int v4), (5, .int v5), (6, .int v6), (7, .int v7)] [] I L) (hk185 : ∀ (I : e_I) (L : e_L), Zo X (ph_vIL) (k185 I L) 185 [(0, .ref 19), (1, .ref 11), (2, .ref g2), (3, .int v3), (4, .int v4), (5, .int v5), (6, .int v6)] [] I L) (v7 : Int32) (I : e_I) (L : e_L) : Zo X (ph_vIL) (f_X3_seek_179 g2 v3 v4 v5 v6 k108 k185 v7 I L) 179 [(0, .ref 19), (1, .ref 11), (2, .ref g2), (3, .int v3), (4, .int v4), (5, .int v5), (6, .int v6), (7, .int v7)] [] I L := by
  unfold f_X3_seek_179
  refine zo_iinc hC (x := v7) (fun x_1 => [(7, .int x_1), (0, .ref 19), (1, .ref 11), (2, .ref g2), (3, .int v3), (4, .int v4), (5, .int v5), (6, .int v6)]) dX3_seek_179 7 rfl (by rfl) (by decide) (fun _ => rfl) (fun x_1 => ?_)
  refine zo_goto (tgt := 108) hC dX3_seek_182 (by decide) ?_
  refine zo_sub [1, 2, 3, 4, 5, 6, 7, 0] (lv' := [(0, .ref 19), (1, .ref 11), (2, .ref g2), (3, .int v3), (4, .int v4), (5, .int v5), (6, .int v6), (7, .int x_1)]) rfl ?_
  exact hk108 x_1 I L

def f_X3_seek_153 (g2 : Nat) (v3 : Int32) (v4 : Int32) (v5 : Int32) (v6 : Int32) (k108 : Int32 → e_I → e_L → Option (e_I × e_L)) (k185 : e_I → e_L → Option (e_I × e_L)) (v7 : Int32) (I : e_I) (L : e_L) : Option (e_I × e_L) :=
  e_b1 (f_X1_sendUp g2 v7 0 I) (fun (I_1 : e_I) =>
  e_b1 (f_X1_hitMean (v3 - 1) 0 I_1 L) (fun (r_2 : Int64) =>
  e_b2 (f_X3_compare r_2 v7 v6 v5 I_1 L) (fun (I_3 : e_I) (L_4 : e_L) =>
  f_X3_seek_179 g2 v3 v4 v5 v6 k108 k185 v7 I_3 L_4)))
set_option maxRecDepth 100000 in
set_option maxHeartbeats 4000000 in
theorem Zf_X3_seek_153 {X : e_X} (hC : e_C X cX3_seek RX3 8 none 4 gN) (g2 : Nat) (hg2 : e_isG g2) (v3 : Int32) (v4 : Int32) (v5 : Int32) (v6 : Int32) (k108 : Int32 → e_I → e_L → Option (e_I × e_L)) (k185 : e_I → e_L → Option (e_I × e_L)) (hk108 : ∀ (v7 : Int32) (I : e_I) (L : e_L), Zo X (ph_vIL) (k108 v7 I L) 108 [(0, .ref 19), (1, .ref 11), (2, .ref g2), (3, .int v3), (4, .int v4), (5, .int v5), (6, .int v6), (7, .int v7)] [] I L) (hk185 : ∀ (I : e_I) (L : e_L), Zo X (ph_vIL) (k185 I L) 185 [(0, .ref 19), (1, .ref 11), (2, .ref g2), (3, .int v3), (4, .int v4), (5, .int v5), (6, .int v6)] [] I L) (v7 : Int32) (I : e_I) (L : e_L) : Zo X (ph_vIL) (f_X3_seek_153 g2 v3 v4 v5 v6 k108 k185 v7 I L) 153 [(0, .ref 19), (1, .ref 11), (2, .ref g2), (3, .int v3), (4, .int v4), (5, .int v5), (6, .int v6), (7, .int v7)] [] I L := by
  unfold f_X3_seek_153
  refine zo_aload_n hC dX3_seek_153 rfl 1 rfl ?_
  refine zo_aload_n hC dX3_seek_154 rfl 2 rfl ?_
  refine zo_iload hC dX3_seek_155 7 rfl ?_
  refine zo_iconst (v := 0) hC (by decide) dX3_seek_157 ?_
  refine zo_callV_vI hC (ci := 1) [.ref g2, .int v7, .int 0] [] me_X1_sendUp mlX3_69 im_X1_sendUp se_X1_sendUp rfl (by decide) at_11 (fun p hp => T_X1_sendUp g2 hg2 v7 0 I L p hp) (by decide) rfl (Nat.le_of_ble_eq_true rfl) dX3_seek_158 rfl (fun I_1 => ?_)
  refine zo_aload_n hC dX3_seek_161 rfl 0 rfl ?_
  refine zo_aload_n hC dX3_seek_162 rfl 1 rfl ?_
  refine zo_iload_n hC dX3_seek_163 rfl 3 rfl ?_
  refine zo_iconst (v := 1) hC (by decide) dX3_seek_164 ?_
  refine zo_isub hC dX3_seek_165 ?_
  refine zo_iconst (v := 0) hC (by decide) dX3_seek_166 ?_
  refine zo_callV_l hC (ci := 1) [.int (v3 - 1), .int 0] [.ref 19] me_X1_hitMean mlX3_73 im_X1_hitMean se_X1_hitMean rfl (by decide) at_11 (fun p hp => T_X1_hitMean (v3 - 1) 0 I_1 L p hp) (by decide) rfl (Nat.le_of_ble_eq_true rfl) dX3_seek_167 rfl (fun r_2 => ?_)
  refine zo_iload hC dX3_seek_170 7 rfl ?_
  refine zo_iload hC dX3_seek_172 6 rfl ?_
  refine zo_iload hC dX3_seek_174 5 rfl ?_
  refine zo_callV_vIL hC (ci := 3) [.long r_2, .int v7, .int v6, .int v5] [] me_X3_compare mlX3_77 im_X3_compare se_X3_compare rfl (by decide) at_19 (fun p hp => T_X3_compare r_2 v7 v6 v5 I_1 L p hp) (by decide) rfl (Nat.le_of_ble_eq_true rfl) dX3_seek_176 rfl (fun I_3 L_4 => ?_)
  exact Zf_X3_seek_179 hC g2 hg2 v3 v4 v5 v6 k108 k185 hk108 hk185 v7 I_3 L_4

def f_X3_seek_134 (g2 : Nat) (v3 : Int32) (v4 : Int32) (v5 : Int32) (v6 : Int32) (k108 : Int32 → e_I → e_L → Option (e_I × e_L)) (k185 : e_I → e_L → Option (e_I × e_L)) (v7 : Int32) (I : e_I) (L : e_L) : Option (e_I × e_L) :=
  if v3 < 3 then (
    f_X3_seek_153 g2 v3 v4 v5 v6 k108 k185 v7 I L)
  else (
    e_b1 (f_X3_fit v4 2 v7 v5) (fun (r_2 : Int32) =>
    if r_2 = 0 then (
      f_X3_seek_179 g2 v3 v4 v5 v6 k108 k185 v7 I L)
    else (
      f_X3_seek_153 g2 v3 v4 v5 v6 k108 k185 v7 I L)))
set_option maxRecDepth 100000 in
set_option maxHeartbeats 4000000 in
theorem Zf_X3_seek_134 {X : e_X} (hC : e_C X cX3_seek RX3 8 none 4 gN) (g2 : Nat) (hg2 : e_isG g2) (v3 : Int32) (v4 : Int32) (v5 : Int32) (v6 : Int32) (k108 : Int32 → e_I → e_L → Option (e_I × e_L)) (k185 : e_I → e_L → Option (e_I × e_L)) (hk108 : ∀ (v7 : Int32) (I : e_I) (L : e_L), Zo X (ph_vIL) (k108 v7 I L) 108 [(0, .ref 19), (1, .ref 11), (2, .ref g2), (3, .int v3), (4, .int v4), (5, .int v5), (6, .int v6), (7, .int v7)] [] I L) (hk185 : ∀ (I : e_I) (L : e_L), Zo X (ph_vIL) (k185 I L) 185 [(0, .ref 19), (1, .ref 11), (2, .ref g2), (3, .int v3), (4, .int v4), (5, .int v5), (6, .int v6)] [] I L) (v7 : Int32) (I : e_I) (L : e_L) : Zo X (ph_vIL) (f_X3_seek_134 g2 v3 v4 v5 v6 k108 k185 v7 I L) 134 [(0, .ref 19), (1, .ref 11), (2, .ref g2), (3, .int v3), (4, .int v4), (5, .int v5), (6, .int v6), (7, .int v7)] [] I L := by
  unfold f_X3_seek_134
  refine zo_iload_n hC dX3_seek_134 rfl 3 rfl ?_
  refine zo_iconst (v := 3) hC (by decide) dX3_seek_135 ?_
  refine zo_icmp_lt (tgt := 153) hC dX3_seek_136 (by decide) (fun c_1 => ?_) (fun c_1 => ?_)
  · exact Zf_X3_seek_153 hC g2 hg2 v3 v4 v5 v6 k108 k185 hk108 hk185 v7 I L
  · refine zo_aload_n hC dX3_seek_139 rfl 0 rfl ?_
    refine zo_iload hC dX3_seek_140 4 rfl ?_
    refine zo_iconst (v := 2) hC (by decide) dX3_seek_142 ?_
    refine zo_iload hC dX3_seek_143 7 rfl ?_
    refine zo_iload hC dX3_seek_145 5 rfl ?_
    refine zo_callV_i hC (ci := 3) [.int v4, .int 2, .int v7, .int v5] [] me_X3_fit mlX3_65 im_X3_fit se_X3_fit rfl (by decide) at_19 (fun p hp => T_X3_fit v4 2 v7 v5 I L p hp) (by decide) rfl (Nat.le_of_ble_eq_true rfl) dX3_seek_147 rfl (fun r_2 => ?_)
    refine zo_if_eq (tgt := 179) hC dX3_seek_150 (by decide) (fun c_3 => ?_) (fun c_3 => ?_)
    · exact Zf_X3_seek_179 hC g2 hg2 v3 v4 v5 v6 k108 k185 hk108 hk185 v7 I L
    · exact Zf_X3_seek_153 hC g2 hg2 v3 v4 v5 v6 k108 k185 hk108 hk185 v7 I L

def f_X3_seek_108 (g2 : Nat) (v3 : Int32) (v4 : Int32) (v5 : Int32) (v6 : Int32) (k185 : e_I → e_L → Option (e_I × e_L)) : Nat → Int32 → e_I → e_L → Option (e_I × e_L)
  | 0, _, _, _ => none
  | n + 1, v7, I, L =>
    if v7 ≥ v4 then (
      k185 I L)
    else (
      if v3 < 2 then (
        f_X3_seek_134 g2 v3 v4 v5 v6 (fun v7 I L => f_X3_seek_108 g2 v3 v4 v5 v6 k185 n v7 I L) k185 v7 I L)
      else (
        e_b1 (f_X3_fit v4 1 v7 v6) (fun (r_3 : Int32) =>
        if r_3 = 0 then (
          f_X3_seek_179 g2 v3 v4 v5 v6 (fun v7 I L => f_X3_seek_108 g2 v3 v4 v5 v6 k185 n v7 I L) k185 v7 I L)
        else (
          f_X3_seek_134 g2 v3 v4 v5 v6 (fun v7 I L => f_X3_seek_108 g2 v3 v4 v5 v6 k185 n v7 I L) k185 v7 I L))))
set_option maxRecDepth 100000 in
set_option maxHeartbeats 4000000 in
theorem Zf_X3_seek_108 {X : e_X} (hC : e_C X cX3_seek RX3 8 none 4 gN) (g2 : Nat) (hg2 : e_isG g2) (v3 : Int32) (v4 : Int32) (v5 : Int32) (v6 : Int32) (k185 : e_I → e_L → Option (e_I × e_L)) (hk185 : ∀ (I : e_I) (L : e_L), Zo X (ph_vIL) (k185 I L) 185 [(0, .ref 19), (1, .ref 11), (2, .ref g2), (3, .int v3), (4, .int v4), (5, .int v5), (6, .int v6)] [] I L) : ∀ (n : Nat) (v7 : Int32) (I : e_I) (L : e_L), Zo X (ph_vIL) (f_X3_seek_108 g2 v3 v4 v5 v6 k185 n v7 I L) 108 [(0, .ref 19), (1, .ref 11), (2, .ref g2), (3, .int v3), (4, .int v4), (5, .int v5), (6, .int v6), (7, .int v7)] [] I L := by
  intro n
  induction n with
  | zero => intro v7 I L p hp; cases hp
  | succ n ih =>
    intro v7 I L
    unfold f_X3_seek_108
    refine zo_iload hC dX3_seek_108 7 rfl ?_
    refine zo_iload hC dX3_seek_110 4 rfl ?_
    refine zo_icmp_ge (tgt := 185) hC dX3_seek_112 (by decide) (fun c_1 => ?_) (fun c_1 => ?_)
    · refine zo_sub [0, 1, 2, 3, 4, 5, 6] (lv' := [(0, .ref 19), (1, .ref 11), (2, .ref g2), (3, .int v3), (4, .int v4), (5, .int v5), (6, .int v6)]) rfl ?_
      exact hk185 I L
    · refine zo_iload_n hC dX3_seek_115 rfl 3 rfl ?_
      refine zo_iconst (v := 2) hC (by decide) dX3_seek_116 ?_
      refine zo_icmp_lt (tgt := 134) hC dX3_seek_117 (by decide) (fun c_2 => ?_) (fun c_2 => ?_)
      · exact Zf_X3_seek_134 hC g2 hg2 v3 v4 v5 v6 (fun v7 I L => f_X3_seek_108 g2 v3 v4 v5 v6 k185 n v7 I L) k185 (fun v7 I L => ih v7 I L) hk185 v7 I L
      · refine zo_aload_n hC dX3_seek_120 rfl 0 rfl ?_
        refine zo_iload hC dX3_seek_121 4 rfl ?_
        refine zo_iconst (v := 1) hC (by decide) dX3_seek_123 ?_
        refine zo_iload hC dX3_seek_124 7 rfl ?_
        refine zo_iload hC dX3_seek_126 6 rfl ?_
        refine zo_callV_i hC (ci := 3) [.int v4, .int 1, .int v7, .int v6] [] me_X3_fit mlX3_65 im_X3_fit se_X3_fit rfl (by decide) at_19 (fun p hp => T_X3_fit v4 1 v7 v6 I L p hp) (by decide) rfl (Nat.le_of_ble_eq_true rfl) dX3_seek_128 rfl (fun r_3 => ?_)
        refine zo_if_eq (tgt := 179) hC dX3_seek_131 (by decide) (fun c_4 => ?_) (fun c_4 => ?_)
        · exact Zf_X3_seek_179 hC g2 hg2 v3 v4 v5 v6 (fun v7 I L => f_X3_seek_108 g2 v3 v4 v5 v6 k185 n v7 I L) k185 (fun v7 I L => ih v7 I L) hk185 v7 I L
        · exact Zf_X3_seek_134 hC g2 hg2 v3 v4 v5 v6 (fun v7 I L => f_X3_seek_108 g2 v3 v4 v5 v6 k185 n v7 I L) k185 (fun v7 I L => ih v7 I L) hk185 v7 I L

def f_X3_seek_185 (g2 : Nat) (v3 : Int32) (v4 : Int32) (v5 : Int32) (k57 : Int32 → e_I → e_L → Option (e_I × e_L)) (k191 : e_I → e_L → Option (e_I × e_L)) (v6 : Int32) (I : e_I) (L : e_L) : Option (e_I × e_L) :=
  e_let (v6 + 1) (fun (x_1 : Int32) =>
  k57 x_1 I L)
set_option maxRecDepth 100000 in
set_option maxHeartbeats 4000000 in
theorem Zf_X3_seek_185 {X : e_X} (hC : e_C X cX3_seek RX3 8 none 4 gN) (g2 : Nat) (hg2 : e_isG g2) (v3 : Int32) (v4 : Int32) (v5 : Int32) (k57 : Int32 → e_I → e_L → Option (e_I × e_L)) (k191 : e_I → e_L → Option (e_I × e_L)) (hk57 : ∀ (v6 : Int32) (I : e_I) (L : e_L), Zo X (ph_vIL) (k57 v6 I L) 57 [(0, .ref 19), (1, .ref 11), (2, .ref g2), (3, .int v3), (4, .int v4), (5, .int v5), (6, .int v6)] [] I L) (hk191 : ∀ (I : e_I) (L : e_L), Zo X (ph_vIL) (k191 I L) 191 [(0, .ref 19), (1, .ref 11), (2, .ref g2), (3, .int v3), (4, .int v4), (5, .int v5)] [] I L) (v6 : Int32) (I : e_I) (L : e_L) : Zo X (ph_vIL) (f_X3_seek_185 g2 v3 v4 v5 k57 k191 v6 I L) 185 [(0, .ref 19), (1, .ref 11), (2, .ref g2), (3, .int v3), (4, .int v4), (5, .int v5), (6, .int v6)] [] I L := by
  unfold f_X3_seek_185
  refine zo_iinc hC (x := v6) (fun x_1 => [(6, .int x_1), (0, .ref 19), (1, .ref 11), (2, .ref g2), (3, .int v3), (4, .int v4), (5, .int v5)]) dX3_seek_185 6 rfl (by rfl) (by decide) (fun _ => rfl) (fun x_1 => ?_)
  refine zo_goto (tgt := 57) hC dX3_seek_188 (by decide) ?_
  refine zo_sub [1, 2, 3, 4, 5, 6, 0] (lv' := [(0, .ref 19), (1, .ref 11), (2, .ref g2), (3, .int v3), (4, .int v4), (5, .int v5), (6, .int x_1)]) rfl ?_
  exact hk57 x_1 I L

def f_X3_seek_95 (g2 : Nat) (v3 : Int32) (v4 : Int32) (v5 : Int32) (k57 : Int32 → e_I → e_L → Option (e_I × e_L)) (k191 : e_I → e_L → Option (e_I × e_L)) (v6 : Int32) (I : e_I) (L : e_L) : Option (e_I × e_L) :=
  e_b2 (f_X3_reckon g2 v6 1 v3 I L) (fun (I_1 : e_I) (L_2 : e_L) =>
  f_X3_seek_108 g2 v3 v4 v5 v6 (fun (I_3 : e_I) (L_4 : e_L) =>
    f_X3_seek_185 g2 v3 v4 v5 k57 k191 v6 I_3 L_4) e_FU 0 I_1 L_2)
set_option maxRecDepth 100000 in
set_option maxHeartbeats 4000000 in
theorem Zf_X3_seek_95 {X : e_X} (hC : e_C X cX3_seek RX3 8 none 4 gN) (g2 : Nat) (hg2 : e_isG g2) (v3 : Int32) (v4 : Int32) (v5 : Int32) (k57 : Int32 → e_I → e_L → Option (e_I × e_L)) (k191 : e_I → e_L → Option (e_I × e_L)) (hk57 : ∀ (v6 : Int32) (I : e_I) (L : e_L), Zo X (ph_vIL) (k57 v6 I L) 57 [(0, .ref 19), (1, .ref 11), (2, .ref g2), (3, .int v3), (4, .int v4), (5, .int v5), (6, .int v6)] [] I L) (hk191 : ∀ (I : e_I) (L : e_L), Zo X (ph_vIL) (k191 I L) 191 [(0, .ref 19), (1, .ref 11), (2, .ref g2), (3, .int v3), (4, .int v4), (5, .int v5)] [] I L) (v6 : Int32) (I : e_I) (L : e_L) : Zo X (ph_vIL) (f_X3_seek_95 g2 v3 v4 v5 k57 k191 v6 I L) 95 [(0, .ref 19), (1, .ref 11), (2, .ref g2), (3, .int v3), (4, .int v4), (5, .int v5), (6, .int v6)] [] I L := by
  unfold f_X3_seek_95
  refine zo_aload_n hC dX3_seek_95 rfl 0 rfl ?_
  refine zo_aload_n hC dX3_seek_96 rfl 1 rfl ?_
  refine zo_aload_n hC dX3_seek_97 rfl 2 rfl ?_
  refine zo_iload hC dX3_seek_98 6 rfl ?_
  refine zo_iconst (v := 1) hC (by decide) dX3_seek_100 ?_
  refine zo_iload_n hC dX3_seek_101 rfl 3 rfl ?_
  refine zo_callV_vIL hC (ci := 3) [.ref 11, .ref g2, .int v6, .int 1, .int v3] [] me_X3_reckon mlX3_61 im_X3_reckon se_X3_reckon rfl (by decide) at_19 (fun p hp => T_X3_reckon g2 hg2 v6 1 v3 I L p hp) (by decide) rfl (Nat.le_of_ble_eq_true rfl) dX3_seek_102 rfl (fun I_1 L_2 => ?_)
  refine zo_iconst (v := 0) hC (by decide) dX3_seek_105 ?_
  refine zo_istore (lv' := [(7, .int 0), (0, .ref 19), (1, .ref 11), (2, .ref g2), (3, .int v3), (4, .int v4), (5, .int v5), (6, .int v6)]) hC dX3_seek_106 (by decide) rfl ?_
  refine zo_sub [1, 2, 3, 4, 5, 6, 7, 0] (lv' := [(0, .ref 19), (1, .ref 11), (2, .ref g2), (3, .int v3), (4, .int v4), (5, .int v5), (6, .int v6), (7, .int 0)]) rfl ?_
  refine Zf_X3_seek_108 hC g2 hg2 v3 v4 v5 v6 _ (fun I_3 L_4 => ?_) e_FU 0 I_1 L_2
  · exact Zf_X3_seek_185 hC g2 hg2 v3 v4 v5 k57 k191 hk57 hk191 v6 I_3 L_4

def f_X3_seek_70 (g2 : Nat) (v3 : Int32) (v4 : Int32) (v5 : Int32) (k57 : Int32 → e_I → e_L → Option (e_I × e_L)) (k191 : e_I → e_L → Option (e_I × e_L)) (v6 : Int32) (s0 : Int32) (s1 : Int32) (I : e_I) (L : e_L) : Option (e_I × e_L) :=
  if s1 ≥ s0 then (
    k191 I L)
  else (
    if v3 ≤ 2 then (
      f_X3_seek_95 g2 v3 v4 v5 k57 k191 v6 I L)
    else (
      e_b1 (f_X3_fit v4 1 v6 v5) (fun (r_3 : Int32) =>
      if r_3 ≠ 0 then (
        f_X3_seek_95 g2 v3 v4 v5 k57 k191 v6 I L)
      else (
        f_X3_seek_185 g2 v3 v4 v5 k57 k191 v6 I L))))
set_option maxRecDepth 100000 in
set_option maxHeartbeats 4000000 in
theorem Zf_X3_seek_70 {X : e_X} (hC : e_C X cX3_seek RX3 8 none 4 gN) (g2 : Nat) (hg2 : e_isG g2) (v3 : Int32) (v4 : Int32) (v5 : Int32) (k57 : Int32 → e_I → e_L → Option (e_I × e_L)) (k191 : e_I → e_L → Option (e_I × e_L)) (hk57 : ∀ (v6 : Int32) (I : e_I) (L : e_L), Zo X (ph_vIL) (k57 v6 I L) 57 [(0, .ref 19), (1, .ref 11), (2, .ref g2), (3, .int v3), (4, .int v4), (5, .int v5), (6, .int v6)] [] I L) (hk191 : ∀ (I : e_I) (L : e_L), Zo X (ph_vIL) (k191 I L) 191 [(0, .ref 19), (1, .ref 11), (2, .ref g2), (3, .int v3), (4, .int v4), (5, .int v5)] [] I L) (v6 : Int32) (s0 : Int32) (s1 : Int32) (I : e_I) (L : e_L) : Zo X (ph_vIL) (f_X3_seek_70 g2 v3 v4 v5 k57 k191 v6 s0 s1 I L) 70 [(0, .ref 19), (1, .ref 11), (2, .ref g2), (3, .int v3), (4, .int v4), (5, .int v5), (6, .int v6)] [.int s0, .int s1] I L := by
  unfold f_X3_seek_70
  refine zo_icmp_ge (tgt := 191) hC dX3_seek_70 (by decide) (fun c_1 => ?_) (fun c_1 => ?_)
  · refine zo_sub [0, 1, 2, 3, 4, 5] (lv' := [(0, .ref 19), (1, .ref 11), (2, .ref g2), (3, .int v3), (4, .int v4), (5, .int v5)]) rfl ?_
    exact hk191 I L
  · refine zo_iload_n hC dX3_seek_73 rfl 3 rfl ?_
    refine zo_iconst (v := 2) hC (by decide) dX3_seek_74 ?_
    refine zo_icmp_le (tgt := 95) hC dX3_seek_75 (by decide) (fun c_2 => ?_) (fun c_2 => ?_)
    · exact Zf_X3_seek_95 hC g2 hg2 v3 v4 v5 k57 k191 hk57 hk191 v6 I L
    · refine zo_aload_n hC dX3_seek_78 rfl 0 rfl ?_
      refine zo_iload hC dX3_seek_79 4 rfl ?_
      refine zo_iconst (v := 1) hC (by decide) dX3_seek_81 ?_
      refine zo_iload hC dX3_seek_82 6 rfl ?_
      refine zo_iload hC dX3_seek_84 5 rfl ?_
      refine zo_callV_i hC (ci := 3) [.int v4, .int 1, .int v6, .int v5] [] me_X3_fit mlX3_65 im_X3_fit se_X3_fit rfl (by decide) at_19 (fun p hp => T_X3_fit v4 1 v6 v5 I L p hp) (by decide) rfl (Nat.le_of_ble_eq_true rfl) dX3_seek_86 rfl (fun r_3 => ?_)
      refine zo_if_ne (tgt := 95) hC dX3_seek_89 (by decide) (fun c_4 => ?_) (fun c_4 => ?_)
      · exact Zf_X3_seek_95 hC g2 hg2 v3 v4 v5 k57 k191 hk57 hk191 v6 I L
      · refine zo_goto (tgt := 185) hC dX3_seek_92 (by decide) ?_
        exact Zf_X3_seek_185 hC g2 hg2 v3 v4 v5 k57 k191 hk57 hk191 v6 I L

def f_X3_seek_57 (g2 : Nat) (v3 : Int32) (v4 : Int32) (v5 : Int32) (k191 : e_I → e_L → Option (e_I × e_L)) : Nat → Int32 → e_I → e_L → Option (e_I × e_L)
  | 0, _, _, _ => none
  | n + 1, v6, I, L =>
    if v3 ≤ 1 then (
      f_X3_seek_70 g2 v3 v4 v5 (fun v6 I L => f_X3_seek_57 g2 v3 v4 v5 k191 n v6 I L) k191 v6 1 v6 I L)
    else (
      f_X3_seek_70 g2 v3 v4 v5 (fun v6 I L => f_X3_seek_57 g2 v3 v4 v5 k191 n v6 I L) k191 v6 v4 v6 I L)
set_option maxRecDepth 100000 in
set_option maxHeartbeats 4000000 in
theorem Zf_X3_seek_57 {X : e_X} (hC : e_C X cX3_seek RX3 8 none 4 gN) (g2 : Nat) (hg2 : e_isG g2) (v3 : Int32) (v4 : Int32) (v5 : Int32) (k191 : e_I → e_L → Option (e_I × e_L)) (hk191 : ∀ (I : e_I) (L : e_L), Zo X (ph_vIL) (k191 I L) 191 [(0, .ref 19), (1, .ref 11), (2, .ref g2), (3, .int v3), (4, .int v4), (5, .int v5)] [] I L) : ∀ (n : Nat) (v6 : Int32) (I : e_I) (L : e_L), Zo X (ph_vIL) (f_X3_seek_57 g2 v3 v4 v5 k191 n v6 I L) 57 [(0, .ref 19), (1, .ref 11), (2, .ref g2), (3, .int v3), (4, .int v4), (5, .int v5), (6, .int v6)] [] I L := by
  intro n
  induction n with
  | zero => intro v6 I L p hp; cases hp
  | succ n ih =>
    intro v6 I L
    unfold f_X3_seek_57
    refine zo_iload hC dX3_seek_57 6 rfl ?_
    refine zo_iload_n hC dX3_seek_59 rfl 3 rfl ?_
    refine zo_iconst (v := 1) hC (by decide) dX3_seek_60 ?_
    refine zo_icmp_le (tgt := 69) hC dX3_seek_61 (by decide) (fun c_1 => ?_) (fun c_1 => ?_)
    · refine zo_iconst (v := 1) hC (by decide) dX3_seek_69 ?_
      exact Zf_X3_seek_70 hC g2 hg2 v3 v4 v5 (fun v6 I L => f_X3_seek_57 g2 v3 v4 v5 k191 n v6 I L) k191 (fun v6 I L => ih v6 I L) hk191 v6 1 v6 I L
    · refine zo_iload hC dX3_seek_64 4 rfl ?_
      refine zo_goto (tgt := 70) hC dX3_seek_66 (by decide) ?_
      exact Zf_X3_seek_70 hC g2 hg2 v3 v4 v5 (fun v6 I L => f_X3_seek_57 g2 v3 v4 v5 k191 n v6 I L) k191 (fun v6 I L => ih v6 I L) hk191 v6 v4 v6 I L

def f_X3_seek_41 (g2 : Nat) (v3 : Int32) (v4 : Int32) (k28 : Int32 → e_I → e_L → Option (e_I × e_L)) (k197 : e_I → e_L → Option (e_I × e_L)) (v5 : Int32) (s0 : Int32) (s1 : Int32) (I : e_I) (L : e_L) : Option (e_I × e_L) :=
  if s1 ≥ s0 then (
    k197 I L)
  else (
    e_b2 (f_X3_reckon g2 v5 2 v3 I L) (fun (I_2 : e_I) (L_3 : e_L) =>
    f_X3_seek_57 g2 v3 v4 v5 (fun (I_4 : e_I) (L_5 : e_L) =>
      e_let (v5 + 1) (fun (x_6 : Int32) =>
      k28 x_6 I_4 L_5)) e_FU 0 I_2 L_3))
set_option maxRecDepth 100000 in
set_option maxHeartbeats 4000000 in
theorem Zf_X3_seek_41 {X : e_X} (hC : e_C X cX3_seek RX3 8 none 4 gN) (g2 : Nat) (hg2 : e_isG g2) (v3 : Int32) (v4 : Int32) (k28 : Int32 → e_I → e_L → Option (e_I × e_L)) (k197 : e_I → e_L → Option (e_I × e_L)) (hk28 : ∀ (v5 : Int32) (I : e_I) (L : e_L), Zo X (ph_vIL) (k28 v5 I L) 28 [(0, .ref 19), (1, .ref 11), (2, .ref g2), (3, .int v3), (4, .int v4), (5, .int v5)] [] I L) (hk197 : ∀ (I : e_I) (L : e_L), Zo X (ph_vIL) (k197 I L) 197 [(0, .ref 19), (3, .int v3), (4, .int v4)] [] I L) (v5 : Int32) (s0 : Int32) (s1 : Int32) (I : e_I) (L : e_L) : Zo X (ph_vIL) (f_X3_seek_41 g2 v3 v4 k28 k197 v5 s0 s1 I L) 41 [(0, .ref 19), (1, .ref 11), (2, .ref g2), (3, .int v3), (4, .int v4), (5, .int v5)] [.int s0, .int s1] I L := by
  unfold f_X3_seek_41
  refine zo_icmp_ge (tgt := 197) hC dX3_seek_41 (by decide) (fun c_1 => ?_) (fun c_1 => ?_)
  · refine zo_sub [0, 3, 4] (lv' := [(0, .ref 19), (3, .int v3), (4, .int v4)]) rfl ?_
    exact hk197 I L
  · refine zo_aload_n hC dX3_seek_44 rfl 0 rfl ?_
    refine zo_aload_n hC dX3_seek_45 rfl 1 rfl ?_
    refine zo_aload_n hC dX3_seek_46 rfl 2 rfl ?_
    refine zo_iload hC dX3_seek_47 5 rfl ?_
    refine zo_iconst (v := 2) hC (by decide) dX3_seek_49 ?_
    refine zo_iload_n hC dX3_seek_50 rfl 3 rfl ?_
    refine zo_callV_vIL hC (ci := 3) [.ref 11, .ref g2, .int v5, .int 2, .int v3] [] me_X3_reckon mlX3_61 im_X3_reckon se_X3_reckon rfl (by decide) at_19 (fun p hp => T_X3_reckon g2 hg2 v5 2 v3 I L p hp) (by decide) rfl (Nat.le_of_ble_eq_true rfl) dX3_seek_51 rfl (fun I_2 L_3 => ?_)
    refine zo_iconst (v := 0) hC (by decide) dX3_seek_54 ?_
    refine zo_istore (lv' := [(6, .int 0), (0, .ref 19), (1, .ref 11), (2, .ref g2), (3, .int v3), (4, .int v4), (5, .int v5)]) hC dX3_seek_55 (by decide) rfl ?_
    refine zo_sub [1, 2, 3, 4, 5, 6, 0] (lv' := [(0, .ref 19), (1, .ref 11), (2, .ref g2), (3, .int v3), (4, .int v4), (5, .int v5), (6, .int 0)]) rfl ?_
    refine Zf_X3_seek_57 hC g2 hg2 v3 v4 v5 _ (fun I_4 L_5 => ?_) e_FU 0 I_2 L_3
    · refine zo_iinc hC (x := v5) (fun x_6 => [(5, .int x_6), (0, .ref 19), (1, .ref 11), (2, .ref g2), (3, .int v3), (4, .int v4)]) dX3_seek_191 5 rfl (by rfl) (by decide) (fun _ => rfl) (fun x_6 => ?_)
      refine zo_goto (tgt := 28) hC dX3_seek_194 (by decide) ?_
      refine zo_sub [1, 2, 3, 4, 5, 0] (lv' := [(0, .ref 19), (1, .ref 11), (2, .ref g2), (3, .int v3), (4, .int v4), (5, .int x_6)]) rfl ?_
      exact hk28 x_6 I_4 L_5

def f_X3_seek_28 (g2 : Nat) (v3 : Int32) (v4 : Int32) (k197 : e_I → e_L → Option (e_I × e_L)) : Nat → Int32 → e_I → e_L → Option (e_I × e_L)
  | 0, _, _, _ => none
  | n + 1, v5, I, L =>
    if v3 ≤ 2 then (
      f_X3_seek_41 g2 v3 v4 (fun v5 I L => f_X3_seek_28 g2 v3 v4 k197 n v5 I L) k197 v5 1 v5 I L)
    else (
      f_X3_seek_41 g2 v3 v4 (fun v5 I L => f_X3_seek_28 g2 v3 v4 k197 n v5 I L) k197 v5 v4 v5 I L)
set_option maxRecDepth 100000 in
set_option maxHeartbeats 4000000 in
theorem Zf_X3_seek_28 {X : e_X} (hC : e_C X cX3_seek RX3 8 none 4 gN) (g2 : Nat) (hg2 : e_isG g2) (v3 : Int32) (v4 : Int32) (k197 : e_I → e_L → Option (e_I × e_L)) (hk197 : ∀ (I : e_I) (L : e_L), Zo X (ph_vIL) (k197 I L) 197 [(0, .ref 19), (3, .int v3), (4, .int v4)] [] I L) : ∀ (n : Nat) (v5 : Int32) (I : e_I) (L : e_L), Zo X (ph_vIL) (f_X3_seek_28 g2 v3 v4 k197 n v5 I L) 28 [(0, .ref 19), (1, .ref 11), (2, .ref g2), (3, .int v3), (4, .int v4), (5, .int v5)] [] I L := by
  intro n
  induction n with
  | zero => intro v5 I L p hp; cases hp
  | succ n ih =>
    intro v5 I L
    unfold f_X3_seek_28
    refine zo_iload hC dX3_seek_28 5 rfl ?_
    refine zo_iload_n hC dX3_seek_30 rfl 3 rfl ?_
    refine zo_iconst (v := 2) hC (by decide) dX3_seek_31 ?_
    refine zo_icmp_le (tgt := 40) hC dX3_seek_32 (by decide) (fun c_1 => ?_) (fun c_1 => ?_)
    · refine zo_iconst (v := 1) hC (by decide) dX3_seek_40 ?_
      exact Zf_X3_seek_41 hC g2 hg2 v3 v4 (fun v5 I L => f_X3_seek_28 g2 v3 v4 k197 n v5 I L) k197 (fun v5 I L => ih v5 I L) hk197 v5 1 v5 I L
    · refine zo_iload hC dX3_seek_35 4 rfl ?_
      refine zo_goto (tgt := 41) hC dX3_seek_37 (by decide) ?_
      exact Zf_X3_seek_41 hC g2 hg2 v3 v4 (fun v5 I L => f_X3_seek_28 g2 v3 v4 k197 n v5 I L) k197 (fun v5 I L => ih v5 I L) hk197 v5 v4 v5 I L

def f_X3_seek (g2 : Nat) (v3 : Int32) (I : e_I) (L : e_L) : Option (e_I × e_L) :=
  e_let (I g2 0) (fun (x_1 : Int32) =>
  e_let (e_ul L 19 3 (-1)) (fun (L_2 : e_L) =>
  e_let (e_ui I 19 2 0) (fun (I_3 : e_I) =>
  e_b1 (f_X1_scaleBy 20 L_2) (fun (L_4 : e_L) =>
  f_X3_seek_28 g2 v3 x_1 (fun (I_5 : e_I) (L_6 : e_L) =>
    e_b1 (f_X3_layFound x_1 v3 I_5) (fun (I_7 : e_I) =>
    some (I_7, L_6))) e_FU 0 I_3 L_4))))
set_option maxRecDepth 100000 in
set_option maxHeartbeats 4000000 in
theorem Zf_X3_seek {X : e_X} (hC : e_C X cX3_seek RX3 8 none 4 gN) (g2 : Nat) (hg2 : e_isG g2) (v3 : Int32) (I : e_I) (L : e_L) : Zo X (ph_vIL) (f_X3_seek g2 v3 I L) 0 [(0, .ref 19), (1, .ref 11), (2, .ref g2), (3, .int v3)] [] I L := by
  unfold f_X3_seek
  refine zo_aload_n hC dX3_seek_0 rfl 2 rfl ?_
  refine zo_getI hC fk3_34 (atG hg2) dX3_seek_1 ?_
  refine zo_topi (fun x_1 => ?_)
  refine zo_istore (lv' := [(4, .int x_1), (0, .ref 19), (1, .ref 11), (2, .ref g2), (3, .int v3)]) hC dX3_seek_4 (by decide) rfl ?_
  refine zo_aload_n hC dX3_seek_6 rfl 1 rfl ?_
  refine zo_ldc2 (v := (-1)) hC clX3_46 dX3_seek_7 ?_
  refine zo_putL hC fk3_48 ff3_3 at_19 dX3_seek_10 ?_
  refine zo_topL (fun L_2 => ?_)
  refine zo_aload_n hC dX3_seek_13 rfl 1 rfl ?_
  refine zo_iconst (v := 0) hC (by decide) dX3_seek_14 ?_
  refine zo_putI hC fk3_52 ff3_2 at_19 dX3_seek_15 ?_
  refine zo_topI (fun I_3 => ?_)
  refine zo_aload_n hC dX3_seek_18 rfl 2 rfl ?_
  refine zo_ldc2 (v := 20) hC clX3_55 dX3_seek_19 ?_
  refine zo_callV_vL hC (ci := 1) [.long 20] [] me_X1_scaleBy mlX3_57 im_X1_scaleBy se_X1_scaleBy rfl (by decide) at_11 (fun p hp => T_X1_scaleBy 20 I_3 L_2 p hp) (by decide) rfl (Nat.le_of_ble_eq_true rfl) dX3_seek_22 rfl (fun L_4 => ?_)
  refine zo_iconst (v := 0) hC (by decide) dX3_seek_25 ?_
  refine zo_istore (lv' := [(5, .int 0), (4, .int x_1), (0, .ref 19), (1, .ref 11), (2, .ref g2), (3, .int v3)]) hC dX3_seek_26 (by decide) rfl ?_
  refine zo_sub [2, 3, 4, 5, 1, 0] (lv' := [(0, .ref 19), (1, .ref 11), (2, .ref g2), (3, .int v3), (4, .int x_1), (5, .int 0)]) rfl ?_
  refine Zf_X3_seek_28 hC g2 hg2 v3 x_1 _ (fun I_5 L_6 => ?_) e_FU 0 I_3 L_4
  · refine zo_aload_n hC dX3_seek_197 rfl 0 rfl ?_
    refine zo_iload hC dX3_seek_198 2 rfl ?_
    refine zo_iload_n hC dX3_seek_200 rfl 1 rfl ?_
    refine zo_callV_vI hC (ci := 3) [.int x_1, .int v3] [] me_X3_layFound mlX3_81 im_X3_layFound se_X3_layFound rfl (by decide) at_19 (fun p hp => T_X3_layFound x_1 v3 I_5 L_6 p hp) (by decide) rfl (Nat.le_of_ble_eq_true rfl) dX3_seek_201 rfl (fun I_7 => ?_)
    exact zo_vret hC rfl dX3_seek_204

theorem T_X3_seek (g2 : Nat) (hg2 : e_isG g2) (v3 : Int32) (I : e_I) (L : e_L) (p : e_I × e_L) (hp : f_X3_seek g2 v3 I L = some p) : Mt yX3_seek cX3_seek 8 none 4 gN [.ref 19, .ref 11, .ref g2, .int v3] I L ((ph_vIL) p) := zo_enter hp (by decide) (Nat.le_of_ble_eq_true rfl) (fun X hC => Zf_X3_seek hC g2 hg2 v3 I L)
def f_X7_best (v1 : Int32) (v2 : Int32) (I : e_I) (L : e_L) : Option (Int64 × e_I × e_L) :=
  e_b1 (f_X7_isPart v2) (fun (r_1 : Int32) =>
  e_b1 (f_X7_troubleOfDepth r_1 v1 3 I) (fun (r_2 : Int32) =>
  e_b2 (f_X7_refused r_2 I) (fun (r_3 : Int32) (I_4 : e_I) =>
  if r_3 = 0 then (
    e_b2 (f_X3_seek 23 v1 I_4 L) (fun (I_6 : e_I) (L_7 : e_L) =>
    e_b1 (f_X1_unit v1 L_7) (fun (r_8 : Int64) =>
    e_b1 (f_X7_part (L_7 19 3) r_8 v2) (fun (r_9 : Int64) =>
    some (r_9, I_6, L_7)))))
  else (
    some ((-1), I_4, L)))))
set_option maxRecDepth 100000 in
set_option maxHeartbeats 4000000 in
theorem Zf_X7_best {X : e_X} (hC : e_C X cX7_best RX7 3 (some .long) 5 gN) (v1 : Int32) (v2 : Int32) (I : e_I) (L : e_L) : Zo X (ph_lIL) (f_X7_best v1 v2 I L) 0 [(0, .ref 0), (1, .int v1), (2, .int v2)] [] I L := by
  unfold f_X7_best
  refine zo_aload_n hC dX7_best_0 rfl 0 rfl ?_
  refine zo_aload_n hC dX7_best_1 rfl 0 rfl ?_
  refine zo_iload_n hC dX7_best_2 rfl 2 rfl ?_
  refine zo_callS_i hC [.int v2] [.ref 0, .ref 0] me_X7_isPart mlX7_200 sm_X7_isPart (fun p hp => T_X7_isPart v2 I L p hp) (by decide) rfl (Nat.le_of_ble_eq_true rfl) dX7_best_3 rfl (fun r_1 => ?_)
  refine zo_iload_n hC dX7_best_6 rfl 1 rfl ?_
  refine zo_iconst (v := 3) hC (by decide) dX7_best_7 ?_
  refine zo_callV_i hC (ci := 7) [.int r_1, .int v1, .int 3] [.ref 0] me_X7_troubleOfDepth mlX7_252 im_X7_troubleOfDepth se_X7_troubleOfDepth rfl (by decide) at_0 (fun p hp => T_X7_troubleOfDepth r_1 v1 3 I L p hp) (by decide) rfl (Nat.le_of_ble_eq_true rfl) dX7_best_8 rfl (fun r_2 => ?_)
  refine zo_callV_iI hC (ci := 7) [.int r_2] [] me_X7_refused mlX7_70 im_X7_refused se_X7_refused rfl (by decide) at_0 (fun p hp => T_X7_refused r_2 I L p hp) (by decide) rfl (Nat.le_of_ble_eq_true rfl) dX7_best_11 rfl (fun r_3 I_4 => ?_)
  refine zo_if_eq (tgt := 21) hC dX7_best_14 (by decide) (fun c_5 => ?_) (fun c_5 => ?_)
  · refine zo_aload_n hC dX7_best_21 rfl 0 rfl ?_
    refine zo_getR hC (r := 19) fk7_47 (by decide) gr_0_6 at_0 dX7_best_22 ?_
    refine zo_aload_n hC dX7_best_25 rfl 0 rfl ?_
    refine zo_getR hC (r := 11) fk7_40 (by decide) gr_0_5 at_0 dX7_best_26 ?_
    refine zo_aload_n hC dX7_best_29 rfl 0 rfl ?_
    refine zo_getR hC (r := 23) fk7_23 (by decide) gr_0_2 at_0 dX7_best_30 ?_
    refine zo_iload_n hC dX7_best_33 rfl 1 rfl ?_
    refine zo_callV_vIL hC (ci := 3) [.ref 11, .ref 23, .int v1] [] me_X3_seek mlX7_260 im_X3_seek se_X3_seek rfl (by decide) at_19 (fun p hp => T_X3_seek 23 isG_23 v1 I_4 L p hp) (by decide) rfl (Nat.le_of_ble_eq_true rfl) dX7_best_34 rfl (fun I_6 L_7 => ?_)
    refine zo_aload_n hC dX7_best_37 rfl 0 rfl ?_
    refine zo_getR hC (r := 19) fk7_47 (by decide) gr_0_6 at_0 dX7_best_38 ?_
    refine zo_getL hC fk7_264 at_19 dX7_best_41 ?_
    refine zo_aload_n hC dX7_best_44 rfl 0 rfl ?_
    refine zo_getR hC (r := 11) fk7_40 (by decide) gr_0_5 at_0 dX7_best_45 ?_
    refine zo_iload_n hC dX7_best_48 rfl 1 rfl ?_
    refine zo_callV_l hC (ci := 1) [.int v1] [.long (L_7 19 3)] me_X1_unit mlX7_213 im_X1_unit se_X1_unit rfl (by decide) at_11 (fun p hp => T_X1_unit v1 I_6 L_7 p hp) (by decide) rfl (Nat.le_of_ble_eq_true rfl) dX7_best_49 rfl (fun r_8 => ?_)
    refine zo_iload_n hC dX7_best_52 rfl 2 rfl ?_
    refine zo_callS_l hC [.long (L_7 19 3), .long r_8, .int v2] [] me_X7_part mlX7_217 sm_X7_part (fun p hp => T_X7_part (L_7 19 3) r_8 v2 I_6 L_7 p hp) (by decide) rfl (Nat.le_of_ble_eq_true rfl) dX7_best_53 rfl (fun r_9 => ?_)
    exact zo_lret hC rfl dX7_best_56
  · refine zo_ldc2 (v := (-1)) hC clX7_207 dX7_best_17 ?_
    exact zo_lret hC rfl dX7_best_20

theorem T_X7_best (v1 : Int32) (v2 : Int32) (I : e_I) (L : e_L) (p : Int64 × e_I × e_L) (hp : f_X7_best v1 v2 I L = some p) : Mt yX7_best cX7_best 3 (some .long) 5 gN [.ref 0, .int v1, .int v2] I L ((ph_lIL) p) := zo_enter hp (by decide) (Nat.le_of_ble_eq_true rfl) (fun X hC => Zf_X7_best hC v1 v2 I L)
def f_X3_foundAt_20 (I : e_I) (s0 : Int32) : Option (Int32) :=
  some s0
set_option maxRecDepth 100000 in
set_option maxHeartbeats 4000000 in
theorem Zf_X3_foundAt_20 {X : e_X} (hC : e_C X cX3_foundAt RX3 2 (some .int) 1 gN) (I : e_I) (L : e_L) (s0 : Int32) : Zo X (ph_i I L) (f_X3_foundAt_20 I s0) 20 [] [.int s0] I L := by
  unfold f_X3_foundAt_20
  exact zo_iret hC rfl dX3_foundAt_20

def f_X3_foundAt (v1 : Int32) (I : e_I) : Option (Int32) :=
  e_b1 (f_X7_within v1 0 8) (fun (r_1 : Int32) =>
  if r_1 = 0 then (
    f_X3_foundAt_20 I (-1))
  else (
    e_as (e_ix v1 9 = true) (
    f_X3_foundAt_20 I (I 21 v1.toNatClampNeg))))
set_option maxRecDepth 100000 in
set_option maxHeartbeats 4000000 in
theorem Zf_X3_foundAt {X : e_X} (hC : e_C X cX3_foundAt RX3 2 (some .int) 1 gN) (v1 : Int32) (I : e_I) (L : e_L) : Zo X (ph_i I L) (f_X3_foundAt v1 I) 0 [(0, .ref 19), (1, .int v1)] [] I L := by
  unfold f_X3_foundAt
  refine zo_iload_n hC dX3_foundAt_0 rfl 1 rfl ?_
  refine zo_iconst (v := 0) hC (by decide) dX3_foundAt_1 ?_
  refine zo_bipush (v := 8) hC (by decide) dX3_foundAt_2 ?_
  refine zo_callSN_i hC [.int v1, .int 0, .int 8] [] me_X7_within (List.mem_of_getElem? (i := 11) rfl) sm_X7_within (fun p hp => T_X7_within v1 0 8 I L p hp) (by decide) rfl (Nat.le_of_ble_eq_true rfl) dX3_foundAt_4 rfl (fun r_1 => ?_)
  refine zo_if_eq (tgt := 19) hC dX3_foundAt_7 (by decide) (fun c_2 => ?_) (fun c_2 => ?_)
  · refine zo_iconst (v := (-1)) hC (by decide) dX3_foundAt_19 ?_
    refine zo_sub [] (lv' := []) rfl ?_
    exact Zf_X3_foundAt_20 hC I L (-1)
  · refine zo_aload_n hC dX3_foundAt_10 rfl 0 rfl ?_
    refine zo_getR hC (r := 21) fk3_15 (by decide) gr_19_1 at_19 dX3_foundAt_11 ?_
    refine zo_iload_n hC dX3_foundAt_14 rfl 1 rfl ?_
    refine zo_as (fun h_3 => ?_)
    refine zo_iald hC ar_21 (e_ix_vp h_3) dX3_foundAt_15 ?_
    refine zo_goto (tgt := 20) hC dX3_foundAt_16 (by decide) ?_
    refine zo_sub [] (lv' := []) rfl ?_
    exact Zf_X3_foundAt_20 hC I L (I 21 v1.toNatClampNeg)

theorem T_X3_foundAt (v1 : Int32) (I : e_I) (L : e_L) (p : Int32) (hp : f_X3_foundAt v1 I = some p) : Mt yX3_foundAt cX3_foundAt 2 (some .int) 1 gN [.ref 19, .int v1] I L ((ph_i I L) p) := zo_enter hp (by decide) (Nat.le_of_ble_eq_true rfl) (fun X hC => Zf_X3_foundAt hC v1 I L)
def f_X7_bestAt (v1 : Int32) (v2 : Int32) (I : e_I) (L : e_L) : Option (Int32 × e_I × e_L) :=
  e_b1 (f_X0_hasPlace 23 v2 I) (fun (r_1 : Int32) =>
  e_b1 (f_X7_troubleOfDepth r_1 v1 3 I) (fun (r_2 : Int32) =>
  e_b2 (f_X7_refused r_2 I) (fun (r_3 : Int32) (I_4 : e_I) =>
  if r_3 = 0 then (
    e_b2 (f_X3_seek 23 v1 I_4 L) (fun (I_6 : e_I) (L_7 : e_L) =>
    e_b1 (f_X3_foundAt v2 I_6) (fun (r_8 : Int32) =>
    some (r_8, I_6, L_7))))
  else (
    some ((-1), I_4, L)))))
set_option maxRecDepth 100000 in
set_option maxHeartbeats 4000000 in
theorem Zf_X7_bestAt {X : e_X} (hC : e_C X cX7_bestAt RX7 3 (some .int) 5 gN) (v1 : Int32) (v2 : Int32) (I : e_I) (L : e_L) : Zo X (ph_iIL) (f_X7_bestAt v1 v2 I L) 0 [(0, .ref 0), (1, .int v1), (2, .int v2)] [] I L := by
  unfold f_X7_bestAt
  refine zo_aload_n hC dX7_bestAt_0 rfl 0 rfl ?_
  refine zo_aload_n hC dX7_bestAt_1 rfl 0 rfl ?_
  refine zo_aload_n hC dX7_bestAt_2 rfl 0 rfl ?_
  refine zo_getR hC (r := 23) fk7_23 (by decide) gr_0_2 at_0 dX7_bestAt_3 ?_
  refine zo_iload_n hC dX7_bestAt_6 rfl 2 rfl ?_
  refine zo_callV_i hC (ci := 0) [.int v2] [.ref 0, .ref 0] me_X0_hasPlace mlX7_158 im_X0_hasPlace se_X0_hasPlace rfl (by decide) at_23 (fun p hp => T_X0_hasPlace 23 isG_23 v2 I L p hp) (by decide) rfl (Nat.le_of_ble_eq_true rfl) dX7_bestAt_7 rfl (fun r_1 => ?_)
  refine zo_iload_n hC dX7_bestAt_10 rfl 1 rfl ?_
  refine zo_iconst (v := 3) hC (by decide) dX7_bestAt_11 ?_
  refine zo_callV_i hC (ci := 7) [.int r_1, .int v1, .int 3] [.ref 0] me_X7_troubleOfDepth mlX7_252 im_X7_troubleOfDepth se_X7_troubleOfDepth rfl (by decide) at_0 (fun p hp => T_X7_troubleOfDepth r_1 v1 3 I L p hp) (by decide) rfl (Nat.le_of_ble_eq_true rfl) dX7_bestAt_12 rfl (fun r_2 => ?_)
  refine zo_callV_iI hC (ci := 7) [.int r_2] [] me_X7_refused mlX7_70 im_X7_refused se_X7_refused rfl (by decide) at_0 (fun p hp => T_X7_refused r_2 I L p hp) (by decide) rfl (Nat.le_of_ble_eq_true rfl) dX7_bestAt_15 rfl (fun r_3 I_4 => ?_)
  refine zo_if_eq (tgt := 23) hC dX7_bestAt_18 (by decide) (fun c_5 => ?_) (fun c_5 => ?_)
  · refine zo_aload_n hC dX7_bestAt_23 rfl 0 rfl ?_
    refine zo_getR hC (r := 19) fk7_47 (by decide) gr_0_6 at_0 dX7_bestAt_24 ?_
    refine zo_aload_n hC dX7_bestAt_27 rfl 0 rfl ?_
    refine zo_getR hC (r := 11) fk7_40 (by decide) gr_0_5 at_0 dX7_bestAt_28 ?_
    refine zo_aload_n hC dX7_bestAt_31 rfl 0 rfl ?_
    refine zo_getR hC (r := 23) fk7_23 (by decide) gr_0_2 at_0 dX7_bestAt_32 ?_
    refine zo_iload_n hC dX7_bestAt_35 rfl 1 rfl ?_
    refine zo_callV_vIL hC (ci := 3) [.ref 11, .ref 23, .int v1] [] me_X3_seek mlX7_260 im_X3_seek se_X3_seek rfl (by decide) at_19 (fun p hp => T_X3_seek 23 isG_23 v1 I_4 L p hp) (by decide) rfl (Nat.le_of_ble_eq_true rfl) dX7_bestAt_36 rfl (fun I_6 L_7 => ?_)
    refine zo_aload_n hC dX7_bestAt_39 rfl 0 rfl ?_
    refine zo_getR hC (r := 19) fk7_47 (by decide) gr_0_6 at_0 dX7_bestAt_40 ?_
    refine zo_iload_n hC dX7_bestAt_43 rfl 2 rfl ?_
    refine zo_callV_i hC (ci := 3) [.int v2] [] me_X3_foundAt mlX7_268 im_X3_foundAt se_X3_foundAt rfl (by decide) at_19 (fun p hp => T_X3_foundAt v2 I_6 L_7 p hp) (by decide) rfl (Nat.le_of_ble_eq_true rfl) dX7_bestAt_44 rfl (fun r_8 => ?_)
    exact zo_iret hC rfl dX7_bestAt_47
  · refine zo_iconst (v := (-1)) hC (by decide) dX7_bestAt_21 ?_
    exact zo_iret hC rfl dX7_bestAt_22

theorem T_X7_bestAt (v1 : Int32) (v2 : Int32) (I : e_I) (L : e_L) (p : Int32 × e_I × e_L) (hp : f_X7_bestAt v1 v2 I L = some p) : Mt yX7_bestAt cX7_bestAt 3 (some .int) 5 gN [.ref 0, .int v1, .int v2] I L ((ph_iIL) p) := zo_enter hp (by decide) (Nat.le_of_ble_eq_true rfl) (fun X hC => Zf_X7_bestAt hC v1 v2 I L)
def f_X0_putAt_17 (g : Nat) (I : e_I) : Option (e_I) :=
  some I
set_option maxRecDepth 100000 in
set_option maxHeartbeats 4000000 in
theorem Zf_X0_putAt_17 {X : e_X} (hC : e_C X cX0_putAt RX0 3 none 1 gN) (g : Nat) (hg : e_isG g) (L : e_L) (I : e_I) : Zo X (ph_vI L) (f_X0_putAt_17 g I) 17 [] [] I L := by
  unfold f_X0_putAt_17
  exact zo_vret hC rfl dX0_putAt_17

def f_X0_putAt (g : Nat) (v1 : Int32) (v2 : Int32) (I : e_I) : Option (e_I) :=
  e_b1 (f_X7_within v1 0 8) (fun (r_1 : Int32) =>
  if r_1 = 0 then (
    f_X0_putAt_17 g I)
  else (
    e_as (e_ix v1 9 = true) (
    e_let (e_ui I (g + 3) v1.toNatClampNeg v2) (fun (I_4 : e_I) =>
    f_X0_putAt_17 g I_4))))
set_option maxRecDepth 100000 in
set_option maxHeartbeats 4000000 in
theorem Zf_X0_putAt {X : e_X} (hC : e_C X cX0_putAt RX0 3 none 1 gN) (g : Nat) (hg : e_isG g) (v1 : Int32) (v2 : Int32) (I : e_I) (L : e_L) : Zo X (ph_vI L) (f_X0_putAt g v1 v2 I) 0 [(0, .ref g), (1, .int v1), (2, .int v2)] [] I L := by
  unfold f_X0_putAt
  refine zo_iload_n hC dX0_putAt_0 rfl 1 rfl ?_
  refine zo_iconst (v := 0) hC (by decide) dX0_putAt_1 ?_
  refine zo_bipush (v := 8) hC (by decide) dX0_putAt_2 ?_
  refine zo_callSN_i hC [.int v1, .int 0, .int 8] [] me_X7_within (List.mem_of_getElem? (i := 5) rfl) sm_X7_within (fun p hp => T_X7_within v1 0 8 I L p hp) (by decide) rfl (Nat.le_of_ble_eq_true rfl) dX0_putAt_4 rfl (fun r_1 => ?_)
  refine zo_if_eq (tgt := 17) hC dX0_putAt_7 (by decide) (fun c_2 => ?_) (fun c_2 => ?_)
  · refine zo_sub [] (lv' := []) rfl ?_
    exact Zf_X0_putAt_17 hC g hg L I
  · refine zo_aload_n hC dX0_putAt_10 rfl 0 rfl ?_
    refine zo_getR hC (r := (g + 3)) fk0_18 (by decide) (grG10 hg) (atG hg) dX0_putAt_11 ?_
    refine zo_iload_n hC dX0_putAt_14 rfl 1 rfl ?_
    refine zo_iload_n hC dX0_putAt_15 rfl 2 rfl ?_
    refine zo_as (fun h_3 => ?_)
    refine zo_iast hC (arG3 hg) (e_ix_vp h_3) dX0_putAt_16 ?_
    refine zo_topI (fun I_4 => ?_)
    refine zo_sub [] (lv' := []) rfl ?_
    exact Zf_X0_putAt_17 hC g hg L I_4

theorem T_X0_putAt (g : Nat) (hg : e_isG g) (v1 : Int32) (v2 : Int32) (I : e_I) (L : e_L) (p : e_I) (hp : f_X0_putAt g v1 v2 I = some p) : Mt yX0_putAt cX0_putAt 3 none 1 gN [.ref g, .int v1, .int v2] I L ((ph_vI L) p) := zo_enter hp (by decide) (Nat.le_of_ble_eq_true rfl) (fun X hC => Zf_X0_putAt hC g hg v1 v2 I L)
def f_X0_exchange (g : Nat) (v1 : Int32) (v2 : Int32) (I : e_I) : Option (e_I) :=
  e_b1 (f_X0_batterAt g v1 I) (fun (r_1 : Int32) =>
  e_b1 (f_X0_batterAt g v2 I) (fun (r_2 : Int32) =>
  e_b1 (f_X0_putAt g v1 r_2 I) (fun (I_3 : e_I) =>
  e_b1 (f_X0_putAt g v2 r_1 I_3) (fun (I_4 : e_I) =>
  some I_4))))
set_option maxRecDepth 100000 in
set_option maxHeartbeats 4000000 in
theorem Zf_X0_exchange {X : e_X} (hC : e_C X cX0_exchange RX0 4 none 2 gN) (g : Nat) (hg : e_isG g) (v1 : Int32) (v2 : Int32) (I : e_I) (L : e_L) : Zo X (ph_vI L) (f_X0_exchange g v1 v2 I) 0 [(0, .ref g), (1, .int v1), (2, .int v2)] [] I L := by
  unfold f_X0_exchange
  refine zo_aload_n hC dX0_exchange_0 rfl 0 rfl ?_
  refine zo_iload_n hC dX0_exchange_1 rfl 1 rfl ?_
  refine zo_callV_i hC (ci := 0) [.int v1] [] me_X0_batterAt mlX0_67 im_X0_batterAt se_X0_batterAt rfl (by decide) (atG hg) (fun p hp => T_X0_batterAt g hg v1 I L p hp) (by decide) rfl (Nat.le_of_ble_eq_true rfl) dX0_exchange_2 rfl (fun r_1 => ?_)
  refine zo_istore_n (lv' := [(3, .int r_1), (0, .ref g), (1, .int v1), (2, .int v2)]) hC dX0_exchange_5 rfl (by decide) rfl ?_
  refine zo_aload_n hC dX0_exchange_6 rfl 1 rfl ?_
  refine zo_iload_n hC dX0_exchange_7 rfl 2 rfl ?_
  refine zo_aload_n hC dX0_exchange_8 rfl 1 rfl ?_
  refine zo_iload_n hC dX0_exchange_9 rfl 3 rfl ?_
  refine zo_callV_i hC (ci := 0) [.int v2] [.int v1, .ref g] me_X0_batterAt mlX0_67 im_X0_batterAt se_X0_batterAt rfl (by decide) (atG hg) (fun p hp => T_X0_batterAt g hg v2 I L p hp) (by decide) rfl (Nat.le_of_ble_eq_true rfl) dX0_exchange_10 rfl (fun r_2 => ?_)
  refine zo_callV_vI hC (ci := 0) [.int v1, .int r_2] [] me_X0_putAt mlX0_71 im_X0_putAt se_X0_putAt rfl (by decide) (atG hg) (fun p hp => T_X0_putAt g hg v1 r_2 I L p hp) (by decide) rfl (Nat.le_of_ble_eq_true rfl) dX0_exchange_13 rfl (fun I_3 => ?_)
  refine zo_aload_n hC dX0_exchange_16 rfl 1 rfl ?_
  refine zo_iload_n hC dX0_exchange_17 rfl 3 rfl ?_
  refine zo_iload_n hC dX0_exchange_18 rfl 0 rfl ?_
  refine zo_callV_vI hC (ci := 0) [.int v2, .int r_1] [] me_X0_putAt mlX0_71 im_X0_putAt se_X0_putAt rfl (by decide) (atG hg) (fun p hp => T_X0_putAt g hg v2 r_1 I_3 L p hp) (by decide) rfl (Nat.le_of_ble_eq_true rfl) dX0_exchange_19 rfl (fun I_4 => ?_)
  exact zo_vret hC rfl dX0_exchange_22

theorem T_X0_exchange (g : Nat) (hg : e_isG g) (v1 : Int32) (v2 : Int32) (I : e_I) (L : e_L) (p : e_I) (hp : f_X0_exchange g v1 v2 I = some p) : Mt yX0_exchange cX0_exchange 4 none 2 gN [.ref g, .int v1, .int v2] I L ((ph_vI L) p) := zo_enter hp (by decide) (Nat.le_of_ble_eq_true rfl) (fun X hC => Zf_X0_exchange hC g hg v1 v2 I L)
def f_X3_worthExchanged (g2 : Nat) (v3 : Int32) (v4 : Int32) (v5 : Int32) (I : e_I) (L : e_L) : Option (Int64 × e_I × e_L) :=
  e_b1 (f_X0_exchange g2 v3 v4 I) (fun (I_1 : e_I) =>
  e_b3 (f_X1_plainMean g2 0 0 v5 0 I_1 L) (fun (r_2 : Int64) (I_3 : e_I) (L_4 : e_L) =>
  e_b1 (f_X0_exchange g2 v3 v4 I_3) (fun (I_5 : e_I) =>
  some (r_2, I_5, L_4))))
set_option maxRecDepth 100000 in
set_option maxHeartbeats 4000000 in
theorem Zf_X3_worthExchanged {X : e_X} (hC : e_C X cX3_worthExchanged RX3 8 (some .long) 4 gN) (g2 : Nat) (hg2 : e_isG g2) (v3 : Int32) (v4 : Int32) (v5 : Int32) (I : e_I) (L : e_L) : Zo X (ph_lIL) (f_X3_worthExchanged g2 v3 v4 v5 I L) 0 [(0, .ref 19), (1, .ref 11), (2, .ref g2), (3, .int v3), (4, .int v4), (5, .int v5)] [] I L := by
  unfold f_X3_worthExchanged
  refine zo_aload_n hC dX3_worthExchanged_0 rfl 2 rfl ?_
  refine zo_iload_n hC dX3_worthExchanged_1 rfl 3 rfl ?_
  refine zo_iload hC dX3_worthExchanged_2 4 rfl ?_
  refine zo_callV_vI hC (ci := 0) [.int v3, .int v4] [] me_X0_exchange mlX3_24 im_X0_exchange se_X0_exchange rfl (by decide) (atG hg2) (fun p hp => T_X0_exchange g2 hg2 v3 v4 I L p hp) (by decide) rfl (Nat.le_of_ble_eq_true rfl) dX3_worthExchanged_4 rfl (fun I_1 => ?_)
  refine zo_aload_n hC dX3_worthExchanged_7 rfl 1 rfl ?_
  refine zo_aload_n hC dX3_worthExchanged_8 rfl 2 rfl ?_
  refine zo_iconst (v := 0) hC (by decide) dX3_worthExchanged_9 ?_
  refine zo_iconst (v := 0) hC (by decide) dX3_worthExchanged_10 ?_
  refine zo_iload hC dX3_worthExchanged_11 5 rfl ?_
  refine zo_iconst (v := 0) hC (by decide) dX3_worthExchanged_13 ?_
  refine zo_callV_lIL hC (ci := 1) [.ref g2, .int 0, .int 0, .int v5, .int 0] [] me_X1_plainMean mlX3_18 im_X1_plainMean se_X1_plainMean rfl (by decide) at_11 (fun p hp => T_X1_plainMean g2 hg2 0 0 v5 0 I_1 L p hp) (by decide) rfl (Nat.le_of_ble_eq_true rfl) dX3_worthExchanged_14 rfl (fun r_2 I_3 L_4 => ?_)
  refine zo_lstore (lv' := [(6, .long r_2), (0, .ref 19), (1, .ref 11), (2, .ref g2), (3, .int v3), (4, .int v4), (5, .int v5)]) hC dX3_worthExchanged_17 (by decide) rfl ?_
  refine zo_aload_n hC dX3_worthExchanged_19 rfl 3 rfl ?_
  refine zo_iload_n hC dX3_worthExchanged_20 rfl 4 rfl ?_
  refine zo_iload hC dX3_worthExchanged_21 5 rfl ?_
  refine zo_callV_vI hC (ci := 0) [.int v3, .int v4] [] me_X0_exchange mlX3_24 im_X0_exchange se_X0_exchange rfl (by decide) (atG hg2) (fun p hp => T_X0_exchange g2 hg2 v3 v4 I_3 L_4 p hp) (by decide) rfl (Nat.le_of_ble_eq_true rfl) dX3_worthExchanged_23 rfl (fun I_5 => ?_)
  refine zo_lload hC dX3_worthExchanged_26 0 rfl ?_
  exact zo_lret hC rfl dX3_worthExchanged_28

theorem T_X3_worthExchanged (g2 : Nat) (hg2 : e_isG g2) (v3 : Int32) (v4 : Int32) (v5 : Int32) (I : e_I) (L : e_L) (p : Int64 × e_I × e_L) (hp : f_X3_worthExchanged g2 v3 v4 v5 I L = some p) : Mt yX3_worthExchanged cX3_worthExchanged 8 (some .long) 4 gN [.ref 19, .ref 11, .ref g2, .int v3, .int v4, .int v5] I L ((ph_lIL) p) := zo_enter hp (by decide) (Nat.le_of_ble_eq_true rfl) (fun X hC => Zf_X3_worthExchanged hC g2 hg2 v3 v4 v5 I L)
def f_X7_exchanged_103 (s0 : Int32) (I : e_I) (L : e_L) : Option (Int32 × e_I × e_L) :=
  some (s0, I, L)
set_option maxRecDepth 100000 in
set_option maxHeartbeats 4000000 in
theorem Zf_X7_exchanged_103 {X : e_X} (hC : e_C X cX7_exchanged RX7 6 (some .int) 5 gN) (s0 : Int32) (I : e_I) (L : e_L) : Zo X (ph_iIL) (f_X7_exchanged_103 s0 I L) 103 [] [.int s0] I L := by
  unfold f_X7_exchanged_103
  exact zo_iret hC rfl dX7_exchanged_103

def f_X7_exchanged_29 (v1 : Int32) (v2 : Int32) (v3 : Int32) (s0 : Int32) (I : e_I) (L : e_L) : Option (Int32 × e_I × e_L) :=
  e_b1 (f_X7_troubleOfDepth s0 v3 5 I) (fun (r_1 : Int32) =>
  e_b2 (f_X7_refused r_1 I) (fun (r_2 : Int32) (I_3 : e_I) =>
  if r_2 = 0 then (
    e_b3 (f_X3_worthExchanged 23 v1 v2 v3 I_3 L) (fun (r_5 : Int64) (I_6 : e_I) (L_7 : e_L) =>
    e_b3 (f_X3_worthNow 23 v3 I_6 L_7) (fun (r_8 : Int64) (I_9 : e_I) (L_10 : e_L) =>
    e_let (r_5 - r_8) (fun (x_11 : Int64) =>
    if (lg_cmp x_11 0) ≤ 0 then (
      if (lg_cmp x_11 0) ≠ 0 then (
        f_X7_exchanged_103 (-2) I_9 L_10)
      else (
        f_X7_exchanged_103 0 I_9 L_10))
    else (
      f_X7_exchanged_103 1 I_9 L_10)))))
  else (
    some ((-1), I_3, L))))
set_option maxRecDepth 100000 in
set_option maxHeartbeats 4000000 in
theorem Zf_X7_exchanged_29 {X : e_X} (hC : e_C X cX7_exchanged RX7 6 (some .int) 5 gN) (v1 : Int32) (v2 : Int32) (v3 : Int32) (s0 : Int32) (I : e_I) (L : e_L) : Zo X (ph_iIL) (f_X7_exchanged_29 v1 v2 v3 s0 I L) 29 [(0, .ref 0), (1, .int v1), (2, .int v2), (3, .int v3)] [.int s0, .ref 0, .ref 0] I L := by
  unfold f_X7_exchanged_29
  refine zo_iload_n hC dX7_exchanged_29 rfl 3 rfl ?_
  refine zo_iconst (v := 5) hC (by decide) dX7_exchanged_30 ?_
  refine zo_callV_i hC (ci := 7) [.int s0, .int v3, .int 5] [.ref 0] me_X7_troubleOfDepth mlX7_252 im_X7_troubleOfDepth se_X7_troubleOfDepth rfl (by decide) at_0 (fun p hp => T_X7_troubleOfDepth s0 v3 5 I L p hp) (by decide) rfl (Nat.le_of_ble_eq_true rfl) dX7_exchanged_31 rfl (fun r_1 => ?_)
  refine zo_callV_iI hC (ci := 7) [.int r_1] [] me_X7_refused mlX7_70 im_X7_refused se_X7_refused rfl (by decide) at_0 (fun p hp => T_X7_refused r_1 I L p hp) (by decide) rfl (Nat.le_of_ble_eq_true rfl) dX7_exchanged_34 rfl (fun r_2 I_3 => ?_)
  refine zo_if_eq (tgt := 42) hC dX7_exchanged_37 (by decide) (fun c_4 => ?_) (fun c_4 => ?_)
  · refine zo_aload_n hC dX7_exchanged_42 rfl 0 rfl ?_
    refine zo_getR hC (r := 19) fk7_47 (by decide) gr_0_6 at_0 dX7_exchanged_43 ?_
    refine zo_aload_n hC dX7_exchanged_46 rfl 0 rfl ?_
    refine zo_getR hC (r := 11) fk7_40 (by decide) gr_0_5 at_0 dX7_exchanged_47 ?_
    refine zo_aload_n hC dX7_exchanged_50 rfl 0 rfl ?_
    refine zo_getR hC (r := 23) fk7_23 (by decide) gr_0_2 at_0 dX7_exchanged_51 ?_
    refine zo_iload_n hC dX7_exchanged_54 rfl 1 rfl ?_
    refine zo_iload_n hC dX7_exchanged_55 rfl 2 rfl ?_
    refine zo_iload_n hC dX7_exchanged_56 rfl 3 rfl ?_
    refine zo_callV_lIL hC (ci := 3) [.ref 11, .ref 23, .int v1, .int v2, .int v3] [] me_X3_worthExchanged mlX7_271 im_X3_worthExchanged se_X3_worthExchanged rfl (by decide) at_19 (fun p hp => T_X3_worthExchanged 23 isG_23 v1 v2 v3 I_3 L p hp) (by decide) rfl (Nat.le_of_ble_eq_true rfl) dX7_exchanged_57 rfl (fun r_5 I_6 L_7 => ?_)
    refine zo_aload_n hC dX7_exchanged_60 rfl 0 rfl ?_
    refine zo_getR hC (r := 19) fk7_47 (by decide) gr_0_6 at_0 dX7_exchanged_61 ?_
    refine zo_aload_n hC dX7_exchanged_64 rfl 0 rfl ?_
    refine zo_getR hC (r := 11) fk7_40 (by decide) gr_0_5 at_0 dX7_exchanged_65 ?_
    refine zo_aload_n hC dX7_exchanged_68 rfl 0 rfl ?_
    refine zo_getR hC (r := 23) fk7_23 (by decide) gr_0_2 at_0 dX7_exchanged_69 ?_
    refine zo_iload_n hC dX7_exchanged_72 rfl 3 rfl ?_
    refine zo_callV_lIL hC (ci := 3) [.ref 11, .ref 23, .int v3] [.long r_5] me_X3_worthNow mlX7_256 im_X3_worthNow se_X3_worthNow rfl (by decide) at_19 (fun p hp => T_X3_worthNow 23 isG_23 v3 I_6 L_7 p hp) (by decide) rfl (Nat.le_of_ble_eq_true rfl) dX7_exchanged_73 rfl (fun r_8 I_9 L_10 => ?_)
    refine zo_lsub hC dX7_exchanged_76 ?_
    refine zo_topl (fun x_11 => ?_)
    refine zo_lstore (lv' := [(4, .long x_11), (0, .ref 0), (1, .int v1), (2, .int v2), (3, .int v3)]) hC dX7_exchanged_77 (by decide) rfl ?_
    refine zo_lload hC dX7_exchanged_79 0 rfl ?_
    refine zo_lconst (v := 0) hC (by decide) dX7_exchanged_81 ?_
    refine zo_lcmp hC dX7_exchanged_82 ?_
    refine zo_if_le (tgt := 90) hC dX7_exchanged_83 (by decide) (fun c_12 => ?_) (fun c_12 => ?_)
    · refine zo_lload hC dX7_exchanged_90 0 rfl ?_
      refine zo_lconst (v := 0) hC (by decide) dX7_exchanged_92 ?_
      refine zo_lcmp hC dX7_exchanged_93 ?_
      refine zo_if_ne (tgt := 101) hC dX7_exchanged_94 (by decide) (fun c_13 => ?_) (fun c_13 => ?_)
      · refine zo_bipush (v := (-2)) hC (by decide) dX7_exchanged_101 ?_
        refine zo_sub [] (lv' := []) rfl ?_
        exact Zf_X7_exchanged_103 hC (-2) I_9 L_10
      · refine zo_iconst (v := 0) hC (by decide) dX7_exchanged_97 ?_
        refine zo_goto (tgt := 103) hC dX7_exchanged_98 (by decide) ?_
        refine zo_sub [] (lv' := []) rfl ?_
        exact Zf_X7_exchanged_103 hC 0 I_9 L_10
    · refine zo_iconst (v := 1) hC (by decide) dX7_exchanged_86 ?_
      refine zo_goto (tgt := 103) hC dX7_exchanged_87 (by decide) ?_
      refine zo_sub [] (lv' := []) rfl ?_
      exact Zf_X7_exchanged_103 hC 1 I_9 L_10
  · refine zo_iconst (v := (-1)) hC (by decide) dX7_exchanged_40 ?_
    exact zo_iret hC rfl dX7_exchanged_41

def f_X7_exchanged_28 (v1 : Int32) (v2 : Int32) (v3 : Int32) (I : e_I) (L : e_L) : Option (Int32 × e_I × e_L) :=
  f_X7_exchanged_29 v1 v2 v3 0 I L
set_option maxRecDepth 100000 in
set_option maxHeartbeats 4000000 in
theorem Zf_X7_exchanged_28 {X : e_X} (hC : e_C X cX7_exchanged RX7 6 (some .int) 5 gN) (v1 : Int32) (v2 : Int32) (v3 : Int32) (I : e_I) (L : e_L) : Zo X (ph_iIL) (f_X7_exchanged_28 v1 v2 v3 I L) 28 [(0, .ref 0), (1, .int v1), (2, .int v2), (3, .int v3)] [.ref 0, .ref 0] I L := by
  unfold f_X7_exchanged_28
  refine zo_iconst (v := 0) hC (by decide) dX7_exchanged_28 ?_
  exact Zf_X7_exchanged_29 hC v1 v2 v3 0 I L

def f_X7_exchanged (v1 : Int32) (v2 : Int32) (v3 : Int32) (I : e_I) (L : e_L) : Option (Int32 × e_I × e_L) :=
  e_b1 (f_X0_hasPlace 23 v1 I) (fun (r_1 : Int32) =>
  if r_1 = 0 then (
    f_X7_exchanged_28 v1 v2 v3 I L)
  else (
    e_b1 (f_X0_hasPlace 23 v2 I) (fun (r_3 : Int32) =>
    if r_3 = 0 then (
      f_X7_exchanged_28 v1 v2 v3 I L)
    else (
      f_X7_exchanged_29 v1 v2 v3 1 I L))))
set_option maxRecDepth 100000 in
set_option maxHeartbeats 4000000 in
theorem Zf_X7_exchanged {X : e_X} (hC : e_C X cX7_exchanged RX7 6 (some .int) 5 gN) (v1 : Int32) (v2 : Int32) (v3 : Int32) (I : e_I) (L : e_L) : Zo X (ph_iIL) (f_X7_exchanged v1 v2 v3 I L) 0 [(0, .ref 0), (1, .int v1), (2, .int v2), (3, .int v3)] [] I L := by
  unfold f_X7_exchanged
  refine zo_aload_n hC dX7_exchanged_0 rfl 0 rfl ?_
  refine zo_aload_n hC dX7_exchanged_1 rfl 0 rfl ?_
  refine zo_aload_n hC dX7_exchanged_2 rfl 0 rfl ?_
  refine zo_getR hC (r := 23) fk7_23 (by decide) gr_0_2 at_0 dX7_exchanged_3 ?_
  refine zo_iload_n hC dX7_exchanged_6 rfl 1 rfl ?_
  refine zo_callV_i hC (ci := 0) [.int v1] [.ref 0, .ref 0] me_X0_hasPlace mlX7_158 im_X0_hasPlace se_X0_hasPlace rfl (by decide) at_23 (fun p hp => T_X0_hasPlace 23 isG_23 v1 I L p hp) (by decide) rfl (Nat.le_of_ble_eq_true rfl) dX7_exchanged_7 rfl (fun r_1 => ?_)
  refine zo_if_eq (tgt := 28) hC dX7_exchanged_10 (by decide) (fun c_2 => ?_) (fun c_2 => ?_)
  · exact Zf_X7_exchanged_28 hC v1 v2 v3 I L
  · refine zo_aload_n hC dX7_exchanged_13 rfl 0 rfl ?_
    refine zo_getR hC (r := 23) fk7_23 (by decide) gr_0_2 at_0 dX7_exchanged_14 ?_
    refine zo_iload_n hC dX7_exchanged_17 rfl 2 rfl ?_
    refine zo_callV_i hC (ci := 0) [.int v2] [.ref 0, .ref 0] me_X0_hasPlace mlX7_158 im_X0_hasPlace se_X0_hasPlace rfl (by decide) at_23 (fun p hp => T_X0_hasPlace 23 isG_23 v2 I L p hp) (by decide) rfl (Nat.le_of_ble_eq_true rfl) dX7_exchanged_18 rfl (fun r_3 => ?_)
    refine zo_if_eq (tgt := 28) hC dX7_exchanged_21 (by decide) (fun c_4 => ?_) (fun c_4 => ?_)
    · exact Zf_X7_exchanged_28 hC v1 v2 v3 I L
    · refine zo_iconst (v := 1) hC (by decide) dX7_exchanged_24 ?_
      refine zo_goto (tgt := 29) hC dX7_exchanged_25 (by decide) ?_
      exact Zf_X7_exchanged_29 hC v1 v2 v3 1 I L

theorem T_X7_exchanged (v1 : Int32) (v2 : Int32) (v3 : Int32) (I : e_I) (L : e_L) (p : Int32 × e_I × e_L) (hp : f_X7_exchanged v1 v2 v3 I L = some p) : Mt yX7_exchanged cX7_exchanged 6 (some .int) 5 gN [.ref 0, .int v1, .int v2, .int v3] I L ((ph_iIL) p) := zo_enter hp (by decide) (Nat.le_of_ble_eq_true rfl) (fun X hC => Zf_X7_exchanged hC v1 v2 v3 I L)
