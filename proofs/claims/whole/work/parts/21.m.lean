def f_X8_readOnce (v1 : Int32) (I : e_I) : Option (Int32 × e_I) :=
  if (((I 83 16) >>> (v1 &&& 31)) &&& 1) ≠ 1 then (
    e_let (e_ui I 83 16 ((I 83 16) ||| ((1 : Int32) <<< (v1 &&& 31)))) (fun (I_2 : e_I) =>
    e_b1 (f_X8_goesOn I_2) (fun (I_3 : e_I) =>
    e_b1 (f_X8_lowOf v1) (fun (r_4 : Int32) =>
    e_b1 (f_X8_highOf v1) (fun (r_5 : Int32) =>
    e_b2 (f_X8_takes ((1 : Int32) + v1) r_4 r_5 I_3) (fun (r_6 : Int32) (I_7 : e_I) =>
    e_as (r_6 = 0 ∨ r_6 = 1) (
    some (r_6, I_7))))))))
  else (
    e_b2 (f_X8_errs 3 I) (fun (r_9 : Int32) (I_10 : e_I) =>
    e_as (r_9 = 0 ∨ r_9 = 1) (
    some (r_9, I_10))))
set_option maxRecDepth 100000 in
set_option maxHeartbeats 4000000 in
theorem Zf_X8_readOnce {X : e_X} (hC : e_C X cX8_readOnce RX8 2 (some .boolean) 3 gN) (v1 : Int32) (I : e_I) (L : e_L) : Zo X (ph_iI L) (f_X8_readOnce v1 I) 0 [(0, .ref 83), (1, .int v1)] [] I L := by
  unfold f_X8_readOnce
  refine zo_aload_n hC dX8_readOnce_0 rfl 0 rfl ?_
  refine zo_getI hC fk8_140 at_83 dX8_readOnce_1 ?_
  refine zo_iload_n hC dX8_readOnce_4 rfl 1 rfl ?_
  refine zo_ishr hC dX8_readOnce_5 ?_
  refine zo_iconst (v := 1) hC (by decide) dX8_readOnce_6 ?_
  refine zo_iand hC dX8_readOnce_7 ?_
  refine zo_iconst (v := 1) hC (by decide) dX8_readOnce_8 ?_
  refine zo_icmp_ne (tgt := 18) hC dX8_readOnce_9 (by decide) (fun c_1 => ?_) (fun c_1 => ?_)
  · refine zo_aload_n hC dX8_readOnce_18 rfl 0 rfl ?_
    refine zo_dup hC rfl dX8_readOnce_19 ?_
    refine zo_getI hC fk8_140 at_83 dX8_readOnce_20 ?_
    refine zo_iconst (v := 1) hC (by decide) dX8_readOnce_23 ?_
    refine zo_iload_n hC dX8_readOnce_24 rfl 1 rfl ?_
    refine zo_ishl hC dX8_readOnce_25 ?_
    refine zo_ior hC dX8_readOnce_26 ?_
    refine zo_putI hC fk8_140 ff8_16 at_83 dX8_readOnce_27 ?_
    refine zo_topI (fun I_2 => ?_)
    refine zo_aload_n hC dX8_readOnce_30 rfl 0 rfl ?_
    refine zo_callV_vI hC (ci := 8) [] [] me_X8_goesOn mlX8_126 im_X8_goesOn se_X8_goesOn rfl (by decide) at_83 (fun p hp => T_X8_goesOn I_2 L p hp) (by decide) rfl (Nat.le_of_ble_eq_true rfl) dX8_readOnce_31 rfl (fun I_3 => ?_)
    refine zo_aload_n hC dX8_readOnce_34 rfl 0 rfl ?_
    refine zo_iconst (v := 1) hC (by decide) dX8_readOnce_35 ?_
    refine zo_iload_n hC dX8_readOnce_36 rfl 1 rfl ?_
    refine zo_iadd hC dX8_readOnce_37 ?_
    refine zo_iload_n hC dX8_readOnce_38 rfl 1 rfl ?_
    refine zo_callS_i hC [.int v1] [.int ((1 : Int32) + v1), .ref 83] me_X8_lowOf mlX8_143 sm_X8_lowOf (fun p hp => T_X8_lowOf v1 I_3 L p hp) (by decide) rfl (Nat.le_of_ble_eq_true rfl) dX8_readOnce_39 rfl (fun r_4 => ?_)
    refine zo_iload_n hC dX8_readOnce_42 rfl 1 rfl ?_
    refine zo_callS_i hC [.int v1] [.int r_4, .int ((1 : Int32) + v1), .ref 83] me_X8_highOf mlX8_146 sm_X8_highOf (fun p hp => T_X8_highOf v1 I_3 L p hp) (by decide) rfl (Nat.le_of_ble_eq_true rfl) dX8_readOnce_43 rfl (fun r_5 => ?_)
    refine zo_callV_iI hC (ci := 8) [.int ((1 : Int32) + v1), .int r_4, .int r_5] [] me_X8_takes mlX8_137 im_X8_takes se_X8_takes rfl (by decide) at_83 (fun p hp => T_X8_takes ((1 : Int32) + v1) r_4 r_5 I_3 L p hp) (by decide) rfl (Nat.le_of_ble_eq_true rfl) dX8_readOnce_46 rfl (fun r_6 I_7 => ?_)
    refine zo_as (fun h_8 => ?_)
    exact zo_zret hC h_8 rfl dX8_readOnce_49
  · refine zo_aload_n hC dX8_readOnce_12 rfl 0 rfl ?_
    refine zo_iconst (v := 3) hC (by decide) dX8_readOnce_13 ?_
    refine zo_callV_iI hC (ci := 8) [.int 3] [] me_X8_errs mlX8_122 im_X8_errs se_X8_errs rfl (by decide) at_83 (fun p hp => T_X8_errs 3 I L p hp) (by decide) rfl (Nat.le_of_ble_eq_true rfl) dX8_readOnce_14 rfl (fun r_9 I_10 => ?_)
    refine zo_as (fun h_11 => ?_)
    exact zo_zret hC h_11 rfl dX8_readOnce_17

theorem T_X8_readOnce (v1 : Int32) (I : e_I) (L : e_L) (p : Int32 × e_I) (hp : f_X8_readOnce v1 I = some p) : Mt yX8_readOnce cX8_readOnce 2 (some .boolean) 3 gN [.ref 83, .int v1] I L ((ph_iI L) p) := zo_enter hp (by decide) (Nat.le_of_ble_eq_true rfl) (fun X hC => Zf_X8_readOnce hC v1 I L)
def f_X8_readLine_99 (s0 : Int32) (I : e_I) : Option (Int32 × e_I) :=
  e_as (s0 = 0 ∨ s0 = 1) (
  some (s0, I))
set_option maxRecDepth 100000 in
set_option maxHeartbeats 4000000 in
theorem Zf_X8_readLine_99 {X : e_X} (hC : e_C X cX8_readLine RX8 2 (some .boolean) 7 gN) (L : e_L) (s0 : Int32) (I : e_I) : Zo X (ph_iI L) (f_X8_readLine_99 s0 I) 99 [] [.int s0] I L := by
  unfold f_X8_readLine_99
  refine zo_as (fun h_1 => ?_)
  exact zo_zret hC h_1 rfl dX8_readLine_99

def f_X8_readLine_80 (s0 : Int32) (I : e_I) : Option (Int32 × e_I) :=
  if s0 ≠ (-1) then (
    e_b2 (f_X8_readOnce s0 I) (fun (r_2 : Int32) (I_3 : e_I) =>
    f_X8_readLine_99 r_2 I_3))
  else (
    e_b2 (f_X8_errs 1 I) (fun (r_4 : Int32) (I_5 : e_I) =>
    f_X8_readLine_99 r_4 I_5))
set_option maxRecDepth 100000 in
set_option maxHeartbeats 4000000 in
theorem Zf_X8_readLine_80 {X : e_X} (hC : e_C X cX8_readLine RX8 2 (some .boolean) 7 gN) (L : e_L) (s0 : Int32) (I : e_I) : Zo X (ph_iI L) (f_X8_readLine_80 s0 I) 80 [(0, .ref 83)] [.int s0] I L := by
  unfold f_X8_readLine_80
  refine zo_istore_n (lv' := [(1, .int s0), (0, .ref 83)]) hC dX8_readLine_80 rfl (by decide) rfl ?_
  refine zo_iload_n hC dX8_readLine_81 rfl 0 rfl ?_
  refine zo_iconst (v := (-1)) hC (by decide) dX8_readLine_82 ?_
  refine zo_icmp_ne (tgt := 94) hC dX8_readLine_83 (by decide) (fun c_1 => ?_) (fun c_1 => ?_)
  · refine zo_aload_n hC dX8_readLine_94 rfl 1 rfl ?_
    refine zo_iload_n hC dX8_readLine_95 rfl 0 rfl ?_
    refine zo_callV_iI hC (ci := 8) [.int s0] [] me_X8_readOnce mlX8_152 im_X8_readOnce se_X8_readOnce rfl (by decide) at_83 (fun p hp => T_X8_readOnce s0 I L p hp) (by decide) rfl (Nat.le_of_ble_eq_true rfl) dX8_readLine_96 rfl (fun r_2 I_3 => ?_)
    refine zo_sub [] (lv' := []) rfl ?_
    exact Zf_X8_readLine_99 hC L r_2 I_3
  · refine zo_aload_n hC dX8_readLine_86 rfl 1 rfl ?_
    refine zo_iconst (v := 1) hC (by decide) dX8_readLine_87 ?_
    refine zo_callV_iI hC (ci := 8) [.int 1] [] me_X8_errs mlX8_122 im_X8_errs se_X8_errs rfl (by decide) at_83 (fun p hp => T_X8_errs 1 I L p hp) (by decide) rfl (Nat.le_of_ble_eq_true rfl) dX8_readLine_88 rfl (fun r_4 I_5 => ?_)
    refine zo_goto (tgt := 99) hC dX8_readLine_91 (by decide) ?_
    refine zo_sub [] (lv' := []) rfl ?_
    exact Zf_X8_readLine_99 hC L r_4 I_5

def f_X8_readLine (I : e_I) : Option (Int32 × e_I) :=
  e_b1 (f_X8_isWord 1005 I) (fun (r_1 : Int32) =>
  if r_1 = 0 then (
    e_b1 (f_X8_isWord 1000 I) (fun (r_3 : Int32) =>
    if r_3 = 0 then (
      e_b1 (f_X8_isWord 1001 I) (fun (r_5 : Int32) =>
      if r_5 = 0 then (
        e_b1 (f_X8_isWord 1002 I) (fun (r_7 : Int32) =>
        if r_7 = 0 then (
          e_b1 (f_X8_isWord 1003 I) (fun (r_9 : Int32) =>
          if r_9 = 0 then (
            e_b1 (f_X8_isWord 1004 I) (fun (r_11 : Int32) =>
            if r_11 = 0 then (
              f_X8_readLine_80 (-1) I)
            else (
              f_X8_readLine_80 4 I)))
          else (
            f_X8_readLine_80 3 I)))
        else (
          f_X8_readLine_80 2 I)))
      else (
        f_X8_readLine_80 1 I)))
    else (
      f_X8_readLine_80 0 I)))
  else (
    e_b2 (f_X8_readBatter I) (fun (r_13 : Int32) (I_14 : e_I) =>
    e_as (r_13 = 0 ∨ r_13 = 1) (
    some (r_13, I_14)))))
set_option maxRecDepth 100000 in
set_option maxHeartbeats 4000000 in
theorem Zf_X8_readLine {X : e_X} (hC : e_C X cX8_readLine RX8 2 (some .boolean) 7 gN) (I : e_I) (L : e_L) : Zo X (ph_iI L) (f_X8_readLine I) 0 [(0, .ref 83)] [] I L := by
  unfold f_X8_readLine
  refine zo_aload_n hC dX8_readLine_0 rfl 0 rfl ?_
  refine zo_ldcs hC (w := 1005) (i := 6) rfl rfl dX8_readLine_1 ?_
  refine zo_callV_i hC (ci := 8) [.ref 1005] [] me_X8_isWord mlX8_108 im_X8_isWord se_X8_isWord rfl (by decide) at_83 (fun p hp => T_X8_isWord 1005 iw_1005 I L p hp) (by decide) rfl (Nat.le_of_ble_eq_true rfl) dX8_readLine_3 rfl (fun r_1 => ?_)
  refine zo_if_eq (tgt := 14) hC dX8_readLine_6 (by decide) (fun c_2 => ?_) (fun c_2 => ?_)
  · refine zo_aload_n hC dX8_readLine_14 rfl 0 rfl ?_
    refine zo_ldcs hC (w := 1000) (i := 7) rfl rfl dX8_readLine_15 ?_
    refine zo_callV_i hC (ci := 8) [.ref 1000] [] me_X8_isWord mlX8_108 im_X8_isWord se_X8_isWord rfl (by decide) at_83 (fun p hp => T_X8_isWord 1000 iw_1000 I L p hp) (by decide) rfl (Nat.le_of_ble_eq_true rfl) dX8_readLine_17 rfl (fun r_3 => ?_)
    refine zo_if_eq (tgt := 27) hC dX8_readLine_20 (by decide) (fun c_4 => ?_) (fun c_4 => ?_)
    · refine zo_aload_n hC dX8_readLine_27 rfl 0 rfl ?_
      refine zo_ldcs hC (w := 1001) (i := 8) rfl rfl dX8_readLine_28 ?_
      refine zo_callV_i hC (ci := 8) [.ref 1001] [] me_X8_isWord mlX8_108 im_X8_isWord se_X8_isWord rfl (by decide) at_83 (fun p hp => T_X8_isWord 1001 iw_1001 I L p hp) (by decide) rfl (Nat.le_of_ble_eq_true rfl) dX8_readLine_30 rfl (fun r_5 => ?_)
      refine zo_if_eq (tgt := 40) hC dX8_readLine_33 (by decide) (fun c_6 => ?_) (fun c_6 => ?_)
      · refine zo_aload_n hC dX8_readLine_40 rfl 0 rfl ?_
        refine zo_ldcs hC (w := 1002) (i := 9) rfl rfl dX8_readLine_41 ?_
        refine zo_callV_i hC (ci := 8) [.ref 1002] [] me_X8_isWord mlX8_108 im_X8_isWord se_X8_isWord rfl (by decide) at_83 (fun p hp => T_X8_isWord 1002 iw_1002 I L p hp) (by decide) rfl (Nat.le_of_ble_eq_true rfl) dX8_readLine_43 rfl (fun r_7 => ?_)
        refine zo_if_eq (tgt := 53) hC dX8_readLine_46 (by decide) (fun c_8 => ?_) (fun c_8 => ?_)
        · refine zo_aload_n hC dX8_readLine_53 rfl 0 rfl ?_
          refine zo_ldcs hC (w := 1003) (i := 10) rfl rfl dX8_readLine_54 ?_
          refine zo_callV_i hC (ci := 8) [.ref 1003] [] me_X8_isWord mlX8_108 im_X8_isWord se_X8_isWord rfl (by decide) at_83 (fun p hp => T_X8_isWord 1003 iw_1003 I L p hp) (by decide) rfl (Nat.le_of_ble_eq_true rfl) dX8_readLine_56 rfl (fun r_9 => ?_)
          refine zo_if_eq (tgt := 66) hC dX8_readLine_59 (by decide) (fun c_10 => ?_) (fun c_10 => ?_)
          · refine zo_aload_n hC dX8_readLine_66 rfl 0 rfl ?_
            refine zo_ldcs hC (w := 1004) (i := 11) rfl rfl dX8_readLine_67 ?_
            refine zo_callV_i hC (ci := 8) [.ref 1004] [] me_X8_isWord mlX8_108 im_X8_isWord se_X8_isWord rfl (by decide) at_83 (fun p hp => T_X8_isWord 1004 iw_1004 I L p hp) (by decide) rfl (Nat.le_of_ble_eq_true rfl) dX8_readLine_69 rfl (fun r_11 => ?_)
            refine zo_if_eq (tgt := 79) hC dX8_readLine_72 (by decide) (fun c_12 => ?_) (fun c_12 => ?_)
            · refine zo_iconst (v := (-1)) hC (by decide) dX8_readLine_79 ?_
              exact Zf_X8_readLine_80 hC L (-1) I
            · refine zo_iconst (v := 4) hC (by decide) dX8_readLine_75 ?_
              refine zo_goto (tgt := 80) hC dX8_readLine_76 (by decide) ?_
              exact Zf_X8_readLine_80 hC L 4 I
          · refine zo_iconst (v := 3) hC (by decide) dX8_readLine_62 ?_
            refine zo_goto (tgt := 80) hC dX8_readLine_63 (by decide) ?_
            exact Zf_X8_readLine_80 hC L 3 I
        · refine zo_iconst (v := 2) hC (by decide) dX8_readLine_49 ?_
          refine zo_goto (tgt := 80) hC dX8_readLine_50 (by decide) ?_
          exact Zf_X8_readLine_80 hC L 2 I
      · refine zo_iconst (v := 1) hC (by decide) dX8_readLine_36 ?_
        refine zo_goto (tgt := 80) hC dX8_readLine_37 (by decide) ?_
        exact Zf_X8_readLine_80 hC L 1 I
    · refine zo_iconst (v := 0) hC (by decide) dX8_readLine_23 ?_
      refine zo_goto (tgt := 80) hC dX8_readLine_24 (by decide) ?_
      exact Zf_X8_readLine_80 hC L 0 I
  · refine zo_aload_n hC dX8_readLine_9 rfl 0 rfl ?_
    refine zo_callV_iI hC (ci := 8) [] [] me_X8_readBatter mlX8_149 im_X8_readBatter se_X8_readBatter rfl (by decide) at_83 (fun p hp => T_X8_readBatter I L p hp) (by decide) rfl (Nat.le_of_ble_eq_true rfl) dX8_readLine_10 rfl (fun r_13 I_14 => ?_)
    refine zo_as (fun h_15 => ?_)
    exact zo_zret hC h_15 rfl dX8_readLine_13

theorem T_X8_readLine (I : e_I) (L : e_L) (p : Int32 × e_I) (hp : f_X8_readLine I = some p) : Mt yX8_readLine cX8_readLine 2 (some .boolean) 7 gN [.ref 83] I L ((ph_iI L) p) := zo_enter hp (by decide) (Nat.le_of_ble_eq_true rfl) (fun X hC => Zf_X8_readLine hC I L)
def f_X8_readAll_17 (k37 : e_I → Option (Int32 × e_I)) : Nat → Int32 → e_I → Option (Int32 × e_I)
  | 0, _, _ => none
  | n + 1, v2, I =>
    if v2 ≥ 396 then (
      k37 I)
    else (
      e_as (e_ix v2 396 = true) (
      e_let (e_ui I 86 v2.toNatClampNeg 0) (fun (I_3 : e_I) =>
      e_let (v2 + 1) (fun (x_4 : Int32) =>
      f_X8_readAll_17 k37 n x_4 I_3))))
set_option maxRecDepth 100000 in
set_option maxHeartbeats 4000000 in
theorem Zf_X8_readAll_17 {X : e_X} (hC : e_C X cX8_readAll RX8 3 (some .boolean) 8 gN) (L : e_L) (k37 : e_I → Option (Int32 × e_I)) (hk37 : ∀ (I : e_I), Zo X (ph_iI L) (k37 I) 37 [(0, .ref 83)] [] I L) : ∀ (n : Nat) (v2 : Int32) (I : e_I), Zo X (ph_iI L) (f_X8_readAll_17 k37 n v2 I) 17 [(0, .ref 83), (2, .int v2)] [] I L := by
  intro n
  induction n with
  | zero => intro v2 I p hp; cases hp
  | succ n ih =>
    intro v2 I
    unfold f_X8_readAll_17
    refine zo_iload_n hC dX8_readAll_17 rfl 1 rfl ?_
    refine zo_sipush (v := 396) hC (by decide) dX8_readAll_18 ?_
    refine zo_icmp_ge (tgt := 37) hC dX8_readAll_21 (by decide) (fun c_1 => ?_) (fun c_1 => ?_)
    · refine zo_sub [0] (lv' := [(0, .ref 83)]) rfl ?_
      exact hk37 I
    · refine zo_aload_n hC dX8_readAll_24 rfl 0 rfl ?_
      refine zo_getR hC (r := 86) fk8_20 (by decide) gr_83_8 at_83 dX8_readAll_25 ?_
      refine zo_iload_n hC dX8_readAll_28 rfl 1 rfl ?_
      refine zo_iconst (v := 0) hC (by decide) dX8_readAll_29 ?_
      refine zo_as (fun h_2 => ?_)
      refine zo_iast hC ar_86 (e_ix_vp h_2) dX8_readAll_30 ?_
      refine zo_topI (fun I_3 => ?_)
      refine zo_iinc hC (x := v2) (fun x_4 => [(2, .int x_4), (0, .ref 83)]) dX8_readAll_31 1 rfl (by rfl) (by decide) (fun _ => rfl) (fun x_4 => ?_)
      refine zo_goto (tgt := 17) hC dX8_readAll_34 (by decide) ?_
      refine zo_sub [1, 0] (lv' := [(0, .ref 83), (2, .int x_4)]) rfl ?_
      exact ih x_4 I_3

def f_X8_readAll_80 (k102 : e_I → Option (Int32 × e_I)) (k100 : e_I → Option (Int32 × e_I)) : Nat → e_I → Option (Int32 × e_I)
  | 0, _ => none
  | n + 1, I =>
    if (I 83 14) ≠ 59 then (
      k102 I)
    else (
      e_b1 (f_X8_goesOn I) (fun (I_2 : e_I) =>
      e_b2 (f_X8_readLine I_2) (fun (r_3 : Int32) (I_4 : e_I) =>
      if r_3 ≠ 0 then (
        f_X8_readAll_80 k102 k100 n I_4)
      else (
        k100 I_4))))
set_option maxRecDepth 100000 in
set_option maxHeartbeats 4000000 in
theorem Zf_X8_readAll_80 {X : e_X} (hC : e_C X cX8_readAll RX8 3 (some .boolean) 8 gN) (L : e_L) (k102 : e_I → Option (Int32 × e_I)) (k100 : e_I → Option (Int32 × e_I)) (hk102 : ∀ (I : e_I), Zo X (ph_iI L) (k102 I) 102 [(0, .ref 83)] [] I L) (hk100 : ∀ (I : e_I), Zo X (ph_iI L) (k100 I) 100 [] [] I L) : ∀ (n : Nat) (I : e_I), Zo X (ph_iI L) (f_X8_readAll_80 k102 k100 n I) 80 [(0, .ref 83)] [] I L := by
  intro n
  induction n with
  | zero => intro I p hp; cases hp
  | succ n ih =>
    intro I
    unfold f_X8_readAll_80
    refine zo_aload_n hC dX8_readAll_80 rfl 0 rfl ?_
    refine zo_getI hC fk8_80 at_83 dX8_readAll_81 ?_
    refine zo_bipush (v := 59) hC (by decide) dX8_readAll_84 ?_
    refine zo_icmp_ne (tgt := 102) hC dX8_readAll_86 (by decide) (fun c_1 => ?_) (fun c_1 => ?_)
    · exact hk102 I
    · refine zo_aload_n hC dX8_readAll_89 rfl 0 rfl ?_
      refine zo_callV_vI hC (ci := 8) [] [] me_X8_goesOn mlX8_126 im_X8_goesOn se_X8_goesOn rfl (by decide) at_83 (fun p hp => T_X8_goesOn I L p hp) (by decide) rfl (Nat.le_of_ble_eq_true rfl) dX8_readAll_90 rfl (fun I_2 => ?_)
      refine zo_aload_n hC dX8_readAll_93 rfl 0 rfl ?_
      refine zo_callV_iI hC (ci := 8) [] [] me_X8_readLine mlX8_155 im_X8_readLine se_X8_readLine rfl (by decide) at_83 (fun p hp => T_X8_readLine I_2 L p hp) (by decide) rfl (Nat.le_of_ble_eq_true rfl) dX8_readAll_94 rfl (fun r_3 I_4 => ?_)
      refine zo_if_ne (tgt := 80) hC dX8_readAll_97 (by decide) (fun c_5 => ?_) (fun c_5 => ?_)
      · exact ih I_4
      · refine zo_sub [] (lv' := []) rfl ?_
        exact hk100 I_4

def f_X8_readAll_137 (s0 : Int32) (I : e_I) : Option (Int32 × e_I) :=
  e_as (s0 = 0 ∨ s0 = 1) (
  some (s0, I))
set_option maxRecDepth 100000 in
set_option maxHeartbeats 4000000 in
theorem Zf_X8_readAll_137 {X : e_X} (hC : e_C X cX8_readAll RX8 3 (some .boolean) 8 gN) (L : e_L) (s0 : Int32) (I : e_I) : Zo X (ph_iI L) (f_X8_readAll_137 s0 I) 137 [] [.int s0] I L := by
  unfold f_X8_readAll_137
  refine zo_as (fun h_1 => ?_)
  exact zo_zret hC h_1 rfl dX8_readAll_137

def f_X8_readAll_132 (I : e_I) : Option (Int32 × e_I) :=
  f_X8_readAll_137 1 I
set_option maxRecDepth 100000 in
set_option maxHeartbeats 4000000 in
theorem Zf_X8_readAll_132 {X : e_X} (hC : e_C X cX8_readAll RX8 3 (some .boolean) 8 gN) (L : e_L) (I : e_I) : Zo X (ph_iI L) (f_X8_readAll_132 I) 132 [] [] I L := by
  unfold f_X8_readAll_132
  refine zo_iconst (v := 1) hC (by decide) dX8_readAll_132 ?_
  refine zo_goto (tgt := 137) hC dX8_readAll_133 (by decide) ?_
  exact Zf_X8_readAll_137 hC L 1 I

def f_X8_readAll (v1 : Int32) (I : e_I) : Option (Int32 × e_I) :=
  e_let (e_ui I 83 11 v1) (fun (I_1 : e_I) =>
  e_let (e_ui I_1 83 13 0) (fun (I_2 : e_I) =>
  e_let (e_ui I_2 83 16 0) (fun (I_3 : e_I) =>
  f_X8_readAll_17 (fun (I_4 : e_I) =>
    e_let (e_ui I_4 86 (1 : Int32).toNatClampNeg 1) (fun (I_5 : e_I) =>
    e_let (e_ui I_5 86 (2 : Int32).toNatClampNeg 2) (fun (I_6 : e_I) =>
    e_let (e_ui I_6 86 (4 : Int32).toNatClampNeg 14) (fun (I_7 : e_I) =>
    e_let (e_ui I_7 86 (5 : Int32).toNatClampNeg 30) (fun (I_8 : e_I) =>
    e_b1 (f_X8_goesOn I_8) (fun (I_9 : e_I) =>
    e_b2 (f_X8_readLine I_9) (fun (r_10 : Int32) (I_11 : e_I) =>
    if r_10 ≠ 0 then (
      f_X8_readAll_80 (fun (I_13 : e_I) =>
        if (I_13 83 14) = 0 then (
          if (I_13 86 (0 : Int32).toNatClampNeg) > 0 then (
            f_X8_readAll_132 I_13)
          else (
            e_b2 (f_X8_errs 5 I_13) (fun (r_16 : Int32) (I_17 : e_I) =>
            if r_16 = 0 then (
              f_X8_readAll_137 0 I_17)
            else (
              f_X8_readAll_132 I_17))))
        else (
          e_b2 (f_X8_errs 1 I_13) (fun (r_19 : Int32) (I_20 : e_I) =>
          e_as (r_19 = 0 ∨ r_19 = 1) (
          some (r_19, I_20))))) (fun (I_22 : e_I) =>
        some (0, I_22)) e_FU I_11)
    else (
      some (0, I_11))))))))) e_FU 0 I_3)))
set_option maxRecDepth 100000 in
set_option maxHeartbeats 4000000 in
theorem Zf_X8_readAll {X : e_X} (hC : e_C X cX8_readAll RX8 3 (some .boolean) 8 gN) (v1 : Int32) (I : e_I) (L : e_L) : Zo X (ph_iI L) (f_X8_readAll v1 I) 0 [(0, .ref 83), (1, .int v1)] [] I L := by
  unfold f_X8_readAll
  refine zo_aload_n hC dX8_readAll_0 rfl 0 rfl ?_
  refine zo_iload_n hC dX8_readAll_1 rfl 1 rfl ?_
  refine zo_putI hC fk8_67 ff8_11 at_83 dX8_readAll_2 ?_
  refine zo_topI (fun I_1 => ?_)
  refine zo_aload_n hC dX8_readAll_5 rfl 0 rfl ?_
  refine zo_iconst (v := 0) hC (by decide) dX8_readAll_6 ?_
  refine zo_putI hC fk8_70 ff8_13 at_83 dX8_readAll_7 ?_
  refine zo_topI (fun I_2 => ?_)
  refine zo_aload_n hC dX8_readAll_10 rfl 0 rfl ?_
  refine zo_iconst (v := 0) hC (by decide) dX8_readAll_11 ?_
  refine zo_putI hC fk8_140 ff8_16 at_83 dX8_readAll_12 ?_
  refine zo_topI (fun I_3 => ?_)
  refine zo_iconst (v := 0) hC (by decide) dX8_readAll_15 ?_
  refine zo_istore_n (lv' := [(2, .int 0), (0, .ref 83), (1, .int v1)]) hC dX8_readAll_16 rfl (by decide) rfl ?_
  refine zo_sub [1, 0] (lv' := [(0, .ref 83), (2, .int 0)]) rfl ?_
  refine Zf_X8_readAll_17 hC L _ (fun I_4 => ?_) e_FU 0 I_3
  · refine zo_aload_n hC dX8_readAll_37 rfl 0 rfl ?_
    refine zo_getR hC (r := 86) fk8_20 (by decide) gr_83_8 at_83 dX8_readAll_38 ?_
    refine zo_iconst (v := 1) hC (by decide) dX8_readAll_41 ?_
    refine zo_iconst (v := 1) hC (by decide) dX8_readAll_42 ?_
    refine zo_iast hC ar_86 (e_ix_vp (by decide)) dX8_readAll_43 ?_
    refine zo_topI (fun I_5 => ?_)
    refine zo_aload_n hC dX8_readAll_44 rfl 0 rfl ?_
    refine zo_getR hC (r := 86) fk8_20 (by decide) gr_83_8 at_83 dX8_readAll_45 ?_
    refine zo_iconst (v := 2) hC (by decide) dX8_readAll_48 ?_
    refine zo_iconst (v := 2) hC (by decide) dX8_readAll_49 ?_
    refine zo_iast hC ar_86 (e_ix_vp (by decide)) dX8_readAll_50 ?_
    refine zo_topI (fun I_6 => ?_)
    refine zo_aload_n hC dX8_readAll_51 rfl 0 rfl ?_
    refine zo_getR hC (r := 86) fk8_20 (by decide) gr_83_8 at_83 dX8_readAll_52 ?_
    refine zo_iconst (v := 4) hC (by decide) dX8_readAll_55 ?_
    refine zo_bipush (v := 14) hC (by decide) dX8_readAll_56 ?_
    refine zo_iast hC ar_86 (e_ix_vp (by decide)) dX8_readAll_58 ?_
    refine zo_topI (fun I_7 => ?_)
    refine zo_aload_n hC dX8_readAll_59 rfl 0 rfl ?_
    refine zo_getR hC (r := 86) fk8_20 (by decide) gr_83_8 at_83 dX8_readAll_60 ?_
    refine zo_iconst (v := 5) hC (by decide) dX8_readAll_63 ?_
    refine zo_bipush (v := 30) hC (by decide) dX8_readAll_64 ?_
    refine zo_iast hC ar_86 (e_ix_vp (by decide)) dX8_readAll_66 ?_
    refine zo_topI (fun I_8 => ?_)
    refine zo_aload_n hC dX8_readAll_67 rfl 0 rfl ?_
    refine zo_callV_vI hC (ci := 8) [] [] me_X8_goesOn mlX8_126 im_X8_goesOn se_X8_goesOn rfl (by decide) at_83 (fun p hp => T_X8_goesOn I_8 L p hp) (by decide) rfl (Nat.le_of_ble_eq_true rfl) dX8_readAll_68 rfl (fun I_9 => ?_)
    refine zo_aload_n hC dX8_readAll_71 rfl 0 rfl ?_
    refine zo_callV_iI hC (ci := 8) [] [] me_X8_readLine mlX8_155 im_X8_readLine se_X8_readLine rfl (by decide) at_83 (fun p hp => T_X8_readLine I_9 L p hp) (by decide) rfl (Nat.le_of_ble_eq_true rfl) dX8_readAll_72 rfl (fun r_10 I_11 => ?_)
    refine zo_if_ne (tgt := 80) hC dX8_readAll_75 (by decide) (fun c_12 => ?_) (fun c_12 => ?_)
    · refine Zf_X8_readAll_80 hC L _ _ (fun I_13 => ?_) (fun I_22 => ?_) e_FU I_11
      · refine zo_aload_n hC dX8_readAll_102 rfl 0 rfl ?_
        refine zo_getI hC fk8_80 at_83 dX8_readAll_103 ?_
        refine zo_if_eq (tgt := 115) hC dX8_readAll_106 (by decide) (fun c_14 => ?_) (fun c_14 => ?_)
        · refine zo_aload_n hC dX8_readAll_115 rfl 0 rfl ?_
          refine zo_getR hC (r := 86) fk8_20 (by decide) gr_83_8 at_83 dX8_readAll_116 ?_
          refine zo_iconst (v := 0) hC (by decide) dX8_readAll_119 ?_
          refine zo_iald hC ar_86 (e_ix_vp (by decide)) dX8_readAll_120 ?_
          refine zo_if_gt (tgt := 132) hC dX8_readAll_121 (by decide) (fun c_15 => ?_) (fun c_15 => ?_)
          · refine zo_sub [] (lv' := []) rfl ?_
            exact Zf_X8_readAll_132 hC L I_13
          · refine zo_aload_n hC dX8_readAll_124 rfl 0 rfl ?_
            refine zo_iconst (v := 5) hC (by decide) dX8_readAll_125 ?_
            refine zo_callV_iI hC (ci := 8) [.int 5] [] me_X8_errs mlX8_122 im_X8_errs se_X8_errs rfl (by decide) at_83 (fun p hp => T_X8_errs 5 I_13 L p hp) (by decide) rfl (Nat.le_of_ble_eq_true rfl) dX8_readAll_126 rfl (fun r_16 I_17 => ?_)
            refine zo_if_eq (tgt := 136) hC dX8_readAll_129 (by decide) (fun c_18 => ?_) (fun c_18 => ?_)
            · refine zo_iconst (v := 0) hC (by decide) dX8_readAll_136 ?_
              refine zo_sub [] (lv' := []) rfl ?_
              exact Zf_X8_readAll_137 hC L 0 I_17
            · refine zo_sub [] (lv' := []) rfl ?_
              exact Zf_X8_readAll_132 hC L I_17
        · refine zo_aload_n hC dX8_readAll_109 rfl 0 rfl ?_
          refine zo_iconst (v := 1) hC (by decide) dX8_readAll_110 ?_
          refine zo_callV_iI hC (ci := 8) [.int 1] [] me_X8_errs mlX8_122 im_X8_errs se_X8_errs rfl (by decide) at_83 (fun p hp => T_X8_errs 1 I_13 L p hp) (by decide) rfl (Nat.le_of_ble_eq_true rfl) dX8_readAll_111 rfl (fun r_19 I_20 => ?_)
          refine zo_as (fun h_21 => ?_)
          exact zo_zret hC h_21 rfl dX8_readAll_114
      · refine zo_iconst (v := 0) hC (by decide) dX8_readAll_100 ?_
        exact zo_zret hC (by decide) rfl dX8_readAll_101
    · refine zo_iconst (v := 0) hC (by decide) dX8_readAll_78 ?_
      exact zo_zret hC (by decide) rfl dX8_readAll_79

theorem T_X8_readAll (v1 : Int32) (I : e_I) (L : e_L) (p : Int32 × e_I) (hp : f_X8_readAll v1 I = some p) : Mt yX8_readAll cX8_readAll 3 (some .boolean) 8 gN [.ref 83, .int v1] I L ((ph_iI L) p) := zo_enter hp (by decide) (Nat.le_of_ble_eq_true rfl) (fun X hC => Zf_X8_readAll hC v1 I L)
def f_X8_lays_3 (a0 : Nat) (a2 : Nat) (v1 : Int32) (v3 : Int32) (v4 : Int32) (k28 : e_I → Option (e_I)) : Nat → Int32 → e_I → Option (e_I)
  | 0, _, _ => none
  | n + 1, v5, I =>
    if v5 ≥ v4 then (
      k28 I)
    else (
      e_as (e_ix (v3 + v5) (e_ln a2) = true) (
      e_as (e_ix (v1 + v5) (e_ln a0) = true) (
      e_let (e_ui I a0 (v1 + v5).toNatClampNeg (I a2 (v3 + v5).toNatClampNeg)) (fun (I_4 : e_I) =>
      e_let (v5 + 1) (fun (x_5 : Int32) =>
      f_X8_lays_3 a0 a2 v1 v3 v4 k28 n x_5 I_4)))))
set_option maxRecDepth 100000 in
set_option maxHeartbeats 4000000 in
theorem Zf_X8_lays_3 {X : e_X} (hC : e_C X cX8_lays RX8 6 none 0 gN) (a0 : Nat) (ha0 : e_ir a0) (a2 : Nat) (ha2 : e_ir a2) (L : e_L) (v1 : Int32) (v3 : Int32) (v4 : Int32) (k28 : e_I → Option (e_I)) (hk28 : ∀ (I : e_I), Zo X (ph_vI L) (k28 I) 28 [] [] I L) : ∀ (n : Nat) (v5 : Int32) (I : e_I), Zo X (ph_vI L) (f_X8_lays_3 a0 a2 v1 v3 v4 k28 n v5 I) 3 [(0, .ref a0), (1, .int v1), (2, .ref a2), (3, .int v3), (4, .int v4), (5, .int v5)] [] I L := by
  intro n
  induction n with
  | zero => intro v5 I p hp; cases hp
  | succ n ih =>
    intro v5 I
    unfold f_X8_lays_3
    refine zo_iload hC dX8_lays_3 5 rfl ?_
    refine zo_iload hC dX8_lays_5 4 rfl ?_
    refine zo_icmp_ge (tgt := 28) hC dX8_lays_7 (by decide) (fun c_1 => ?_) (fun c_1 => ?_)
    · refine zo_sub [] (lv' := []) rfl ?_
      exact hk28 I
    · refine zo_aload_n hC dX8_lays_10 rfl 0 rfl ?_
      refine zo_iload_n hC dX8_lays_11 rfl 1 rfl ?_
      refine zo_iload hC dX8_lays_12 5 rfl ?_
      refine zo_iadd hC dX8_lays_14 ?_
      refine zo_aload_n hC dX8_lays_15 rfl 2 rfl ?_
      refine zo_iload_n hC dX8_lays_16 rfl 3 rfl ?_
      refine zo_iload hC dX8_lays_17 5 rfl ?_
      refine zo_iadd hC dX8_lays_19 ?_
      refine zo_as (fun h_2 => ?_)
      refine zo_iald hC (e_ir_ar ha2) (e_ix_vp h_2) dX8_lays_20 ?_
      refine zo_as (fun h_3 => ?_)
      refine zo_iast hC (e_ir_ar ha0) (e_ix_vp h_3) dX8_lays_21 ?_
      refine zo_topI (fun I_4 => ?_)
      refine zo_iinc hC (x := v5) (fun x_5 => [(5, .int x_5), (0, .ref a0), (1, .int v1), (2, .ref a2), (3, .int v3), (4, .int v4)]) dX8_lays_22 5 rfl (by rfl) (by decide) (fun _ => rfl) (fun x_5 => ?_)
      refine zo_goto (tgt := 3) hC dX8_lays_25 (by decide) ?_
      refine zo_sub [1, 2, 3, 4, 5, 0] (lv' := [(0, .ref a0), (1, .int v1), (2, .ref a2), (3, .int v3), (4, .int v4), (5, .int x_5)]) rfl ?_
      exact ih x_5 I_4

def f_X8_lays (a0 : Nat) (a2 : Nat) (v1 : Int32) (v3 : Int32) (v4 : Int32) (I : e_I) : Option (e_I) :=
  f_X8_lays_3 a0 a2 v1 v3 v4 (fun (I_1 : e_I) =>
    some I_1) e_FU 0 I
set_option maxRecDepth 100000 in
set_option maxHeartbeats 4000000 in
theorem Zf_X8_lays {X : e_X} (hC : e_C X cX8_lays RX8 6 none 0 gN) (a0 : Nat) (ha0 : e_ir a0) (a2 : Nat) (ha2 : e_ir a2) (v1 : Int32) (v3 : Int32) (v4 : Int32) (I : e_I) (L : e_L) : Zo X (ph_vI L) (f_X8_lays a0 a2 v1 v3 v4 I) 0 [(0, .ref a0), (1, .int v1), (2, .ref a2), (3, .int v3), (4, .int v4)] [] I L := by
  unfold f_X8_lays
  refine zo_iconst (v := 0) hC (by decide) dX8_lays_0 ?_
  refine zo_istore (lv' := [(5, .int 0), (0, .ref a0), (1, .int v1), (2, .ref a2), (3, .int v3), (4, .int v4)]) hC dX8_lays_1 (by decide) rfl ?_
  refine zo_sub [1, 2, 3, 4, 5, 0] (lv' := [(0, .ref a0), (1, .int v1), (2, .ref a2), (3, .int v3), (4, .int v4), (5, .int 0)]) rfl ?_
  refine Zf_X8_lays_3 hC a0 ha0 a2 ha2 L v1 v3 v4 _ (fun I_1 => ?_) e_FU 0 I
  · exact zo_vret hC rfl dX8_lays_28

theorem T_X8_lays (a0 : Nat) (ha0 : e_ir a0) (a2 : Nat) (ha2 : e_ir a2) (v1 : Int32) (v3 : Int32) (v4 : Int32) (I : e_I) (L : e_L) (p : e_I) (hp : f_X8_lays a0 a2 v1 v3 v4 I = some p) : Mt yX8_lays cX8_lays 6 none 0 gN [.ref a0, .int v1, .ref a2, .int v3, .int v4] I L ((ph_vI L) p) := zo_enter hp (by decide) (Nat.le_of_ble_eq_true rfl) (fun X hC => Zf_X8_lays hC a0 ha0 a2 ha2 v1 v3 v4 I L)
def f_X8_begins (a0 : Nat) (I : e_I) : Option (e_I) :=
  e_as (e_ix 69 (e_ln a0) = true) (
  e_let (e_ui I a0 (69 : Int32).toNatClampNeg 1) (fun (I_2 : e_I) =>
  e_as (e_ix 70 (e_ln a0) = true) (
  e_let (e_ui I_2 a0 (70 : Int32).toNatClampNeg 0) (fun (I_4 : e_I) =>
  e_as (e_ix 71 (e_ln a0) = true) (
  e_let (e_ui I_4 a0 (71 : Int32).toNatClampNeg 0) (fun (I_6 : e_I) =>
  e_as (e_ix 60 (e_ln a0) = true) (
  e_as (e_ix 72 (e_ln a0) = true) (
  e_let (e_ui I_6 a0 (72 : Int32).toNatClampNeg (I_6 a0 (60 : Int32).toNatClampNeg)) (fun (I_9 : e_I) =>
  e_as (e_ix 73 (e_ln a0) = true) (
  e_let (e_ui I_9 a0 (73 : Int32).toNatClampNeg 0) (fun (I_11 : e_I) =>
  e_as (e_ix 74 (e_ln a0) = true) (
  e_let (e_ui I_11 a0 (74 : Int32).toNatClampNeg 0) (fun (I_13 : e_I) =>
  e_as (e_ix 75 (e_ln a0) = true) (
  e_let (e_ui I_13 a0 (75 : Int32).toNatClampNeg 0) (fun (I_15 : e_I) =>
  some I_15)))))))))))))))
set_option maxRecDepth 100000 in
set_option maxHeartbeats 4000000 in
theorem Zf_X8_begins {X : e_X} (hC : e_C X cX8_begins RX8 1 none 0 gN) (a0 : Nat) (ha0 : e_ir a0) (I : e_I) (L : e_L) : Zo X (ph_vI L) (f_X8_begins a0 I) 0 [(0, .ref a0)] [] I L := by
  unfold f_X8_begins
  refine zo_aload_n hC dX8_begins_0 rfl 0 rfl ?_
  refine zo_bipush (v := 69) hC (by decide) dX8_begins_1 ?_
  refine zo_iconst (v := 1) hC (by decide) dX8_begins_3 ?_
  refine zo_as (fun h_1 => ?_)
  refine zo_iast hC (e_ir_ar ha0) (e_ix_vp h_1) dX8_begins_4 ?_
  refine zo_topI (fun I_2 => ?_)
  refine zo_aload_n hC dX8_begins_5 rfl 0 rfl ?_
  refine zo_bipush (v := 70) hC (by decide) dX8_begins_6 ?_
  refine zo_iconst (v := 0) hC (by decide) dX8_begins_8 ?_
  refine zo_as (fun h_3 => ?_)
  refine zo_iast hC (e_ir_ar ha0) (e_ix_vp h_3) dX8_begins_9 ?_
  refine zo_topI (fun I_4 => ?_)
  refine zo_aload_n hC dX8_begins_10 rfl 0 rfl ?_
  refine zo_bipush (v := 71) hC (by decide) dX8_begins_11 ?_
  refine zo_iconst (v := 0) hC (by decide) dX8_begins_13 ?_
  refine zo_as (fun h_5 => ?_)
  refine zo_iast hC (e_ir_ar ha0) (e_ix_vp h_5) dX8_begins_14 ?_
  refine zo_topI (fun I_6 => ?_)
  refine zo_aload_n hC dX8_begins_15 rfl 0 rfl ?_
  refine zo_bipush (v := 72) hC (by decide) dX8_begins_16 ?_
  refine zo_aload_n hC dX8_begins_18 rfl 0 rfl ?_
  refine zo_bipush (v := 60) hC (by decide) dX8_begins_19 ?_
  refine zo_as (fun h_7 => ?_)
  refine zo_iald hC (e_ir_ar ha0) (e_ix_vp h_7) dX8_begins_21 ?_
  refine zo_as (fun h_8 => ?_)
  refine zo_iast hC (e_ir_ar ha0) (e_ix_vp h_8) dX8_begins_22 ?_
  refine zo_topI (fun I_9 => ?_)
  refine zo_aload_n hC dX8_begins_23 rfl 0 rfl ?_
  refine zo_bipush (v := 73) hC (by decide) dX8_begins_24 ?_
  refine zo_iconst (v := 0) hC (by decide) dX8_begins_26 ?_
  refine zo_as (fun h_10 => ?_)
  refine zo_iast hC (e_ir_ar ha0) (e_ix_vp h_10) dX8_begins_27 ?_
  refine zo_topI (fun I_11 => ?_)
  refine zo_aload_n hC dX8_begins_28 rfl 0 rfl ?_
  refine zo_bipush (v := 74) hC (by decide) dX8_begins_29 ?_
  refine zo_iconst (v := 0) hC (by decide) dX8_begins_31 ?_
  refine zo_as (fun h_12 => ?_)
  refine zo_iast hC (e_ir_ar ha0) (e_ix_vp h_12) dX8_begins_32 ?_
  refine zo_topI (fun I_13 => ?_)
  refine zo_aload_n hC dX8_begins_33 rfl 0 rfl ?_
  refine zo_bipush (v := 75) hC (by decide) dX8_begins_34 ?_
  refine zo_iconst (v := 0) hC (by decide) dX8_begins_36 ?_
  refine zo_as (fun h_14 => ?_)
  refine zo_iast hC (e_ir_ar ha0) (e_ix_vp h_14) dX8_begins_37 ?_
  refine zo_topI (fun I_15 => ?_)
  exact zo_vret hC rfl dX8_begins_38

theorem T_X8_begins (a0 : Nat) (ha0 : e_ir a0) (I : e_I) (L : e_L) (p : e_I) (hp : f_X8_begins a0 I = some p) : Mt yX8_begins cX8_begins 1 none 0 gN [.ref a0] I L ((ph_vI L) p) := zo_enter hp (by decide) (Nat.le_of_ble_eq_true rfl) (fun X hC => Zf_X8_begins hC a0 ha0 I L)
def f_X8_text (v1 : Int32) (I : e_I) : Option (Int32 × e_I) :=
  e_b1 (f_X8_in v1 0 (I 83 5)) (fun (r_1 : Int32) =>
  e_b1 (f_X8_unless_ 1 r_1) (fun (r_2 : Int32) =>
  e_b2 (f_X8_isRefused r_2 I) (fun (r_3 : Int32) (I_4 : e_I) =>
  if r_3 = 0 then (
    e_let (e_ui I_4 83 5 0) (fun (I_6 : e_I) =>
    e_let (e_ui I_6 83 2 0) (fun (I_7 : e_I) =>
    e_b2 (f_X8_readAll v1 I_7) (fun (r_8 : Int32) (I_9 : e_I) =>
    if r_8 ≠ 0 then (
      e_let (e_ui I_9 83 6 1) (fun (I_11 : e_I) =>
      e_let (e_ui I_11 83 33 0) (fun (I_12 : e_I) =>
      e_b1 (f_X8_lays 85 86 0 0 396 I_12) (fun (I_13 : e_I) =>
      e_b1 (f_X8_lays 87 88 0 0 54 I_13) (fun (I_14 : e_I) =>
      e_b1 (f_X8_begins 85 I_14) (fun (I_15 : e_I) =>
      some ((I_15 85 (0 : Int32).toNatClampNeg), I_15)))))))
    else (
      e_let (e_ui I_9 83 2 (I_9 83 17)) (fun (I_16 : e_I) =>
      e_let (e_ui I_16 83 3 (I_16 83 18)) (fun (I_17 : e_I) =>
      e_b2 (f_X8_no 4 I_17) (fun (r_18 : Int32) (I_19 : e_I) =>
      some (r_18, I_19)))))))))
  else (
    some ((-1), I_4)))))
set_option maxRecDepth 100000 in
set_option maxHeartbeats 4000000 in
theorem Zf_X8_text {X : e_X} (hC : e_C X cX8_text RX8 2 (some .int) 9 gN) (v1 : Int32) (I : e_I) (L : e_L) : Zo X (ph_iI L) (f_X8_text v1 I) 0 [(0, .ref 83), (1, .int v1)] [] I L := by
  unfold f_X8_text
  refine zo_aload_n hC dX8_text_0 rfl 0 rfl ?_
  refine zo_iconst (v := 1) hC (by decide) dX8_text_1 ?_
  refine zo_iload_n hC dX8_text_2 rfl 1 rfl ?_
  refine zo_iconst (v := 0) hC (by decide) dX8_text_3 ?_
  refine zo_aload_n hC dX8_text_4 rfl 0 rfl ?_
  refine zo_getI hC fk8_60 at_83 dX8_text_5 ?_
  refine zo_callS_i hC [.int v1, .int 0, .int (I 83 5)] [.int 1, .ref 83] me_X8_in mlX8_83 sm_X8_in (fun p hp => T_X8_in v1 0 (I 83 5) I L p hp) (by decide) rfl (Nat.le_of_ble_eq_true rfl) dX8_text_8 rfl (fun r_1 => ?_)
  refine zo_callS_i hC [.int 1, .int r_1] [.ref 83] me_X8_unless_ mlX8_158 sm_X8_unless_ (fun p hp => T_X8_unless_ 1 r_1 I L p hp) (by decide) rfl (Nat.le_of_ble_eq_true rfl) dX8_text_11 rfl (fun r_2 => ?_)
  refine zo_callV_iI hC (ci := 8) [.int r_2] [] me_X8_isRefused mlX8_162 im_X8_isRefused se_X8_isRefused rfl (by decide) at_83 (fun p hp => T_X8_isRefused r_2 I L p hp) (by decide) rfl (Nat.le_of_ble_eq_true rfl) dX8_text_14 rfl (fun r_3 I_4 => ?_)
  refine zo_if_eq (tgt := 22) hC dX8_text_17 (by decide) (fun c_5 => ?_) (fun c_5 => ?_)
  · refine zo_aload_n hC dX8_text_22 rfl 0 rfl ?_
    refine zo_iconst (v := 0) hC (by decide) dX8_text_23 ?_
    refine zo_putI hC fk8_60 ff8_5 at_83 dX8_text_24 ?_
    refine zo_topI (fun I_6 => ?_)
    refine zo_aload_n hC dX8_text_27 rfl 0 rfl ?_
    refine zo_iconst (v := 0) hC (by decide) dX8_text_28 ?_
    refine zo_putI hC fk8_165 ff8_2 at_83 dX8_text_29 ?_
    refine zo_topI (fun I_7 => ?_)
    refine zo_aload_n hC dX8_text_32 rfl 0 rfl ?_
    refine zo_iload_n hC dX8_text_33 rfl 1 rfl ?_
    refine zo_callV_iI hC (ci := 8) [.int v1] [] me_X8_readAll mlX8_168 im_X8_readAll se_X8_readAll rfl (by decide) at_83 (fun p hp => T_X8_readAll v1 I_7 L p hp) (by decide) rfl (Nat.le_of_ble_eq_true rfl) dX8_text_34 rfl (fun r_8 I_9 => ?_)
    refine zo_if_ne (tgt := 62) hC dX8_text_37 (by decide) (fun c_10 => ?_) (fun c_10 => ?_)
    · refine zo_aload_n hC dX8_text_62 rfl 0 rfl ?_
      refine zo_iconst (v := 1) hC (by decide) dX8_text_63 ?_
      refine zo_putZ hC fk8_174 ff8_6 (by decide) at_83 dX8_text_64 ?_
      refine zo_topI (fun I_11 => ?_)
      refine zo_aload_n hC dX8_text_67 rfl 0 rfl ?_
      refine zo_iconst (v := 0) hC (by decide) dX8_text_68 ?_
      refine zo_putI hC fk8_178 ff8_33 at_83 dX8_text_69 ?_
      refine zo_topI (fun I_12 => ?_)
      refine zo_aload_n hC dX8_text_72 rfl 0 rfl ?_
      refine zo_getR hC (r := 85) fk8_17 (by decide) gr_83_7 at_83 dX8_text_73 ?_
      refine zo_iconst (v := 0) hC (by decide) dX8_text_76 ?_
      refine zo_aload_n hC dX8_text_77 rfl 0 rfl ?_
      refine zo_getR hC (r := 86) fk8_20 (by decide) gr_83_8 at_83 dX8_text_78 ?_
      refine zo_iconst (v := 0) hC (by decide) dX8_text_81 ?_
      refine zo_sipush (v := 396) hC (by decide) dX8_text_82 ?_
      refine zo_callS_vI hC [.ref 85, .int 0, .ref 86, .int 0, .int 396] [] me_X8_lays mlX8_181 sm_X8_lays (fun p hp => T_X8_lays 85 ir_85 86 ir_86 0 0 396 I_12 L p hp) (by decide) rfl (Nat.le_of_ble_eq_true rfl) dX8_text_85 rfl (fun I_13 => ?_)
      refine zo_aload_n hC dX8_text_88 rfl 0 rfl ?_
      refine zo_getR hC (r := 87) fk8_23 (by decide) gr_83_9 at_83 dX8_text_89 ?_
      refine zo_iconst (v := 0) hC (by decide) dX8_text_92 ?_
      refine zo_aload_n hC dX8_text_93 rfl 0 rfl ?_
      refine zo_getR hC (r := 88) fk8_26 (by decide) gr_83_10 at_83 dX8_text_94 ?_
      refine zo_iconst (v := 0) hC (by decide) dX8_text_97 ?_
      refine zo_bipush (v := 54) hC (by decide) dX8_text_98 ?_
      refine zo_callS_vI hC [.ref 87, .int 0, .ref 88, .int 0, .int 54] [] me_X8_lays mlX8_181 sm_X8_lays (fun p hp => T_X8_lays 87 ir_87 88 ir_88 0 0 54 I_13 L p hp) (by decide) rfl (Nat.le_of_ble_eq_true rfl) dX8_text_100 rfl (fun I_14 => ?_)
      refine zo_aload_n hC dX8_text_103 rfl 0 rfl ?_
      refine zo_getR hC (r := 85) fk8_17 (by decide) gr_83_7 at_83 dX8_text_104 ?_
      refine zo_callS_vI hC [.ref 85] [] me_X8_begins mlX8_185 sm_X8_begins (fun p hp => T_X8_begins 85 ir_85 I_14 L p hp) (by decide) rfl (Nat.le_of_ble_eq_true rfl) dX8_text_107 rfl (fun I_15 => ?_)
      refine zo_aload_n hC dX8_text_110 rfl 0 rfl ?_
      refine zo_getR hC (r := 85) fk8_17 (by decide) gr_83_7 at_83 dX8_text_111 ?_
      refine zo_iconst (v := 0) hC (by decide) dX8_text_114 ?_
      refine zo_iald hC ar_85 (e_ix_vp (by decide)) dX8_text_115 ?_
      exact zo_iret hC rfl dX8_text_116
    · refine zo_aload_n hC dX8_text_40 rfl 0 rfl ?_
      refine zo_aload_n hC dX8_text_41 rfl 0 rfl ?_
      refine zo_getI hC fk8_100 at_83 dX8_text_42 ?_
      refine zo_putI hC fk8_165 ff8_2 at_83 dX8_text_45 ?_
      refine zo_topI (fun I_16 => ?_)
      refine zo_aload_n hC dX8_text_48 rfl 0 rfl ?_
      refine zo_aload_n hC dX8_text_49 rfl 0 rfl ?_
      refine zo_getI hC fk8_103 at_83 dX8_text_50 ?_
      refine zo_putI hC fk8_9 ff8_3 at_83 dX8_text_53 ?_
      refine zo_topI (fun I_17 => ?_)
      refine zo_aload_n hC dX8_text_56 rfl 0 rfl ?_
      refine zo_iconst (v := 4) hC (by decide) dX8_text_57 ?_
      refine zo_callV_iI hC (ci := 8) [.int 4] [] me_X8_no mlX8_171 im_X8_no se_X8_no rfl (by decide) at_83 (fun p hp => T_X8_no 4 I_17 L p hp) (by decide) rfl (Nat.le_of_ble_eq_true rfl) dX8_text_58 rfl (fun r_18 I_19 => ?_)
      exact zo_iret hC rfl dX8_text_61
  · refine zo_iconst (v := (-1)) hC (by decide) dX8_text_20 ?_
    exact zo_iret hC rfl dX8_text_21

theorem T_X8_text (v1 : Int32) (I : e_I) (L : e_L) (p : Int32 × e_I) (hp : f_X8_text v1 I = some p) : Mt yX8_text cX8_text 2 (some .int) 9 gN [.ref 83, .int v1] I L ((ph_iI L) p) := zo_enter hp (by decide) (Nat.le_of_ble_eq_true rfl) (fun X hC => Zf_X8_text hC v1 I L)
def f_X8_fault (I : e_I) : Option (Int32 × e_I) :=
  e_let (e_ui I 83 0 0) (fun (I_1 : e_I) =>
  some ((I_1 83 2), I_1))
set_option maxRecDepth 100000 in
set_option maxHeartbeats 4000000 in
theorem Zf_X8_fault {X : e_X} (hC : e_C X cX8_fault RX8 1 (some .int) 0 gN) (I : e_I) (L : e_L) : Zo X (ph_iI L) (f_X8_fault I) 0 [(0, .ref 83)] [] I L := by
  unfold f_X8_fault
  refine zo_aload_n hC dX8_fault_0 rfl 0 rfl ?_
  refine zo_iconst (v := 0) hC (by decide) dX8_fault_1 ?_
  refine zo_putI hC fk8_54 ff8_0 at_83 dX8_fault_2 ?_
  refine zo_topI (fun I_1 => ?_)
  refine zo_aload_n hC dX8_fault_5 rfl 0 rfl ?_
  refine zo_getI hC fk8_165 at_83 dX8_fault_6 ?_
  exact zo_iret hC rfl dX8_fault_9

theorem T_X8_fault (I : e_I) (L : e_L) (p : Int32 × e_I) (hp : f_X8_fault I = some p) : Mt yX8_fault cX8_fault 1 (some .int) 0 gN [.ref 83] I L ((ph_iI L) p) := zo_enter hp (by decide) (Nat.le_of_ble_eq_true rfl) (fun X hC => Zf_X8_fault hC I L)
def f_X8_where_21 (s0 : Int32) (I : e_I) : Option (Int32 × e_I) :=
  some (s0, I)
set_option maxRecDepth 100000 in
set_option maxHeartbeats 4000000 in
theorem Zf_X8_where_21 {X : e_X} (hC : e_C X cX8_where RX8 1 (some .int) 0 gN) (L : e_L) (s0 : Int32) (I : e_I) : Zo X (ph_iI L) (f_X8_where_21 s0 I) 21 [] [.int s0] I L := by
  unfold f_X8_where_21
  exact zo_iret hC rfl dX8_where_21

def f_X8_where (I : e_I) : Option (Int32 × e_I) :=
  e_let (e_ui I 83 0 0) (fun (I_1 : e_I) =>
  if (I_1 83 1) ≠ 4 then (
    f_X8_where_21 (-1) I_1)
  else (
    f_X8_where_21 (I_1 83 3) I_1))
set_option maxRecDepth 100000 in
set_option maxHeartbeats 4000000 in
theorem Zf_X8_where {X : e_X} (hC : e_C X cX8_where RX8 1 (some .int) 0 gN) (I : e_I) (L : e_L) : Zo X (ph_iI L) (f_X8_where I) 0 [(0, .ref 83)] [] I L := by
  unfold f_X8_where
  refine zo_aload_n hC dX8_where_0 rfl 0 rfl ?_
  refine zo_iconst (v := 0) hC (by decide) dX8_where_1 ?_
  refine zo_putI hC fk8_54 ff8_0 at_83 dX8_where_2 ?_
  refine zo_topI (fun I_1 => ?_)
  refine zo_aload_n hC dX8_where_5 rfl 0 rfl ?_
  refine zo_getI hC fk8_57 at_83 dX8_where_6 ?_
  refine zo_iconst (v := 4) hC (by decide) dX8_where_9 ?_
  refine zo_icmp_ne (tgt := 20) hC dX8_where_10 (by decide) (fun c_2 => ?_) (fun c_2 => ?_)
  · refine zo_iconst (v := (-1)) hC (by decide) dX8_where_20 ?_
    refine zo_sub [] (lv' := []) rfl ?_
    exact Zf_X8_where_21 hC L (-1) I_1
  · refine zo_aload_n hC dX8_where_13 rfl 0 rfl ?_
    refine zo_getI hC fk8_9 at_83 dX8_where_14 ?_
    refine zo_goto (tgt := 21) hC dX8_where_17 (by decide) ?_
    refine zo_sub [] (lv' := []) rfl ?_
    exact Zf_X8_where_21 hC L (I_1 83 3) I_1

theorem T_X8_where (I : e_I) (L : e_L) (p : Int32 × e_I) (hp : f_X8_where I = some p) : Mt yX8_where cX8_where 1 (some .int) 0 gN [.ref 83] I L ((ph_iI L) p) := zo_enter hp (by decide) (Nat.le_of_ble_eq_true rfl) (fun X hC => Zf_X8_where hC I L)
def f_X8_isBatter (v1 : Int32) (I : e_I) : Option (Int32) :=
  e_b1 (f_X8_in v1 0 ((I 85 (0 : Int32).toNatClampNeg) - 1)) (fun (r_1 : Int32) =>
  e_as (r_1 = 0 ∨ r_1 = 1) (
  some r_1))
set_option maxRecDepth 100000 in
set_option maxHeartbeats 4000000 in
theorem Zf_X8_isBatter {X : e_X} (hC : e_C X cX8_isBatter RX8 2 (some .boolean) 1 gN) (v1 : Int32) (I : e_I) (L : e_L) : Zo X (ph_i I L) (f_X8_isBatter v1 I) 0 [(0, .ref 83), (1, .int v1)] [] I L := by
  unfold f_X8_isBatter
  refine zo_iload_n hC dX8_isBatter_0 rfl 1 rfl ?_
  refine zo_iconst (v := 0) hC (by decide) dX8_isBatter_1 ?_
  refine zo_aload_n hC dX8_isBatter_2 rfl 0 rfl ?_
  refine zo_getR hC (r := 85) fk8_17 (by decide) gr_83_7 at_83 dX8_isBatter_3 ?_
  refine zo_iconst (v := 0) hC (by decide) dX8_isBatter_6 ?_
  refine zo_iald hC ar_85 (e_ix_vp (by decide)) dX8_isBatter_7 ?_
  refine zo_iconst (v := 1) hC (by decide) dX8_isBatter_8 ?_
  refine zo_isub hC dX8_isBatter_9 ?_
  refine zo_callS_i hC [.int v1, .int 0, .int ((I 85 (0 : Int32).toNatClampNeg) - 1)] [] me_X8_in mlX8_83 sm_X8_in (fun p hp => T_X8_in v1 0 ((I 85 (0 : Int32).toNatClampNeg) - 1) I L p hp) (by decide) rfl (Nat.le_of_ble_eq_true rfl) dX8_isBatter_10 rfl (fun r_1 => ?_)
  refine zo_as (fun h_2 => ?_)
  exact zo_zret hC h_2 rfl dX8_isBatter_13

theorem T_X8_isBatter (v1 : Int32) (I : e_I) (L : e_L) (p : Int32) (hp : f_X8_isBatter v1 I = some p) : Mt yX8_isBatter cX8_isBatter 2 (some .boolean) 1 gN [.ref 83, .int v1] I L ((ph_i I L) p) := zo_enter hp (by decide) (Nat.le_of_ble_eq_true rfl) (fun X hC => Zf_X8_isBatter hC v1 I L)
def f_X8_about_23 (v1 : Int32) (s0 : Int32) (I : e_I) : Option (Int32 × e_I) :=
  e_b1 (f_X8_unless s0) (fun (r_1 : Int32) =>
  e_b2 (f_X8_isRefused r_1 I) (fun (r_2 : Int32) (I_3 : e_I) =>
  if r_2 = 0 then (
    if v1 = 0 then (
      some ((I_3 85 (0 : Int32).toNatClampNeg), I_3))
    else (
    if v1 = 1 then (
      some ((I_3 85 (69 : Int32).toNatClampNeg), I_3))
    else (
    if v1 = 2 then (
      some ((I_3 85 (70 : Int32).toNatClampNeg), I_3))
    else (
    if v1 = 3 then (
      some ((I_3 85 (71 : Int32).toNatClampNeg), I_3))
    else (
    if v1 = 4 then (
      some ((I_3 85 (74 : Int32).toNatClampNeg), I_3))
    else (
    if v1 = 5 then (
      some ((I_3 85 (72 : Int32).toNatClampNeg), I_3))
    else (
    if v1 = 6 then (
      some ((I_3 85 (73 : Int32).toNatClampNeg), I_3))
    else (
    if v1 = 7 then (
      some ((I_3 85 (75 : Int32).toNatClampNeg), I_3))
    else (
    some ((I_3 83 33), I_3))))))))))
  else (
    some ((-1), I_3))))
set_option maxRecDepth 100000 in
set_option maxHeartbeats 4000000 in
theorem Zf_X8_about_23 {X : e_X} (hC : e_C X cX8_about RX8 2 (some .int) 1 gN) (L : e_L) (v1 : Int32) (s0 : Int32) (I : e_I) : Zo X (ph_iI L) (f_X8_about_23 v1 s0 I) 23 [(0, .ref 83), (1, .int v1)] [.int s0, .ref 83] I L := by
  unfold f_X8_about_23
  refine zo_callS_i hC [.int s0] [.ref 83] me_X8_unless mlX8_189 sm_X8_unless (fun p hp => T_X8_unless s0 I L p hp) (by decide) rfl (Nat.le_of_ble_eq_true rfl) dX8_about_23 rfl (fun r_1 => ?_)
  refine zo_callV_iI hC (ci := 8) [.int r_1] [] me_X8_isRefused mlX8_162 im_X8_isRefused se_X8_isRefused rfl (by decide) at_83 (fun p hp => T_X8_isRefused r_1 I L p hp) (by decide) rfl (Nat.le_of_ble_eq_true rfl) dX8_about_26 rfl (fun r_2 I_3 => ?_)
  refine zo_if_eq (tgt := 34) hC dX8_about_29 (by decide) (fun c_4 => ?_) (fun c_4 => ?_)
  · refine zo_iload_n hC dX8_about_34 rfl 1 rfl ?_
    refine zo_ite (fun c_5 => ?_) (fun c_5 => ?_)
    · refine zo_tsw_in (tgt := 80) hC dX8_about_35 (by rw [c_5]; decide) (by rw [c_5]; decide) (by rw [c_5]; rfl) (by decide) ?_
      refine zo_aload_n hC dX8_about_80 rfl 0 rfl ?_
      refine zo_getR hC (r := 85) fk8_17 (by decide) gr_83_7 at_83 dX8_about_81 ?_
      refine zo_iconst (v := 0) hC (by decide) dX8_about_84 ?_
      refine zo_iald hC ar_85 (e_ix_vp (by decide)) dX8_about_85 ?_
      exact zo_iret hC rfl dX8_about_86
    refine zo_ite (fun c_6 => ?_) (fun c_6 => ?_)
    · refine zo_tsw_in (tgt := 87) hC dX8_about_35 (by rw [c_6]; decide) (by rw [c_6]; decide) (by rw [c_6]; rfl) (by decide) ?_
      refine zo_aload_n hC dX8_about_87 rfl 0 rfl ?_
      refine zo_getR hC (r := 85) fk8_17 (by decide) gr_83_7 at_83 dX8_about_88 ?_
      refine zo_bipush (v := 69) hC (by decide) dX8_about_91 ?_
      refine zo_iald hC ar_85 (e_ix_vp (by decide)) dX8_about_93 ?_
      exact zo_iret hC rfl dX8_about_94
    refine zo_ite (fun c_7 => ?_) (fun c_7 => ?_)
    · refine zo_tsw_in (tgt := 95) hC dX8_about_35 (by rw [c_7]; decide) (by rw [c_7]; decide) (by rw [c_7]; rfl) (by decide) ?_
      refine zo_aload_n hC dX8_about_95 rfl 0 rfl ?_
      refine zo_getR hC (r := 85) fk8_17 (by decide) gr_83_7 at_83 dX8_about_96 ?_
      refine zo_bipush (v := 70) hC (by decide) dX8_about_99 ?_
      refine zo_iald hC ar_85 (e_ix_vp (by decide)) dX8_about_101 ?_
      exact zo_iret hC rfl dX8_about_102
    refine zo_ite (fun c_8 => ?_) (fun c_8 => ?_)
    · refine zo_tsw_in (tgt := 103) hC dX8_about_35 (by rw [c_8]; decide) (by rw [c_8]; decide) (by rw [c_8]; rfl) (by decide) ?_
      refine zo_aload_n hC dX8_about_103 rfl 0 rfl ?_
      refine zo_getR hC (r := 85) fk8_17 (by decide) gr_83_7 at_83 dX8_about_104 ?_
      refine zo_bipush (v := 71) hC (by decide) dX8_about_107 ?_
      refine zo_iald hC ar_85 (e_ix_vp (by decide)) dX8_about_109 ?_
      exact zo_iret hC rfl dX8_about_110
    refine zo_ite (fun c_9 => ?_) (fun c_9 => ?_)
    · refine zo_tsw_in (tgt := 111) hC dX8_about_35 (by rw [c_9]; decide) (by rw [c_9]; decide) (by rw [c_9]; rfl) (by decide) ?_
      refine zo_aload_n hC dX8_about_111 rfl 0 rfl ?_
      refine zo_getR hC (r := 85) fk8_17 (by decide) gr_83_7 at_83 dX8_about_112 ?_
      refine zo_bipush (v := 74) hC (by decide) dX8_about_115 ?_
      refine zo_iald hC ar_85 (e_ix_vp (by decide)) dX8_about_117 ?_
      exact zo_iret hC rfl dX8_about_118
    refine zo_ite (fun c_10 => ?_) (fun c_10 => ?_)
    · refine zo_tsw_in (tgt := 119) hC dX8_about_35 (by rw [c_10]; decide) (by rw [c_10]; decide) (by rw [c_10]; rfl) (by decide) ?_
      refine zo_aload_n hC dX8_about_119 rfl 0 rfl ?_
      refine zo_getR hC (r := 85) fk8_17 (by decide) gr_83_7 at_83 dX8_about_120 ?_
      refine zo_bipush (v := 72) hC (by decide) dX8_about_123 ?_
      refine zo_iald hC ar_85 (e_ix_vp (by decide)) dX8_about_125 ?_
      exact zo_iret hC rfl dX8_about_126
    refine zo_ite (fun c_11 => ?_) (fun c_11 => ?_)
    · refine zo_tsw_in (tgt := 127) hC dX8_about_35 (by rw [c_11]; decide) (by rw [c_11]; decide) (by rw [c_11]; rfl) (by decide) ?_
      refine zo_aload_n hC dX8_about_127 rfl 0 rfl ?_
      refine zo_getR hC (r := 85) fk8_17 (by decide) gr_83_7 at_83 dX8_about_128 ?_
      refine zo_bipush (v := 73) hC (by decide) dX8_about_131 ?_
      refine zo_iald hC ar_85 (e_ix_vp (by decide)) dX8_about_133 ?_
      exact zo_iret hC rfl dX8_about_134
    refine zo_ite (fun c_12 => ?_) (fun c_12 => ?_)
    · refine zo_tsw_in (tgt := 135) hC dX8_about_35 (by rw [c_12]; decide) (by rw [c_12]; decide) (by rw [c_12]; rfl) (by decide) ?_
      refine zo_aload_n hC dX8_about_135 rfl 0 rfl ?_
      refine zo_getR hC (r := 85) fk8_17 (by decide) gr_83_7 at_83 dX8_about_136 ?_
      refine zo_bipush (v := 75) hC (by decide) dX8_about_139 ?_
      refine zo_iald hC ar_85 (e_ix_vp (by decide)) dX8_about_141 ?_
      exact zo_iret hC rfl dX8_about_142
    refine zo_tsw_out (tgt := 143) hC dX8_about_35 (by have q0 := e_sw (n := 0) (by decide) (by decide) c_5; have q1 := e_sw (n := 1) (by decide) (by decide) c_6; have q2 := e_sw (n := 2) (by decide) (by decide) c_7; have q3 := e_sw (n := 3) (by decide) (by decide) c_8; have q4 := e_sw (n := 4) (by decide) (by decide) c_9; have q5 := e_sw (n := 5) (by decide) (by decide) c_10; have q6 := e_sw (n := 6) (by decide) (by decide) c_11; have q7 := e_sw (n := 7) (by decide) (by decide) c_12; omega) (by decide) ?_
    refine zo_aload_n hC dX8_about_143 rfl 0 rfl ?_
    refine zo_getI hC fk8_178 at_83 dX8_about_144 ?_
    exact zo_iret hC rfl dX8_about_147
  · refine zo_iconst (v := (-1)) hC (by decide) dX8_about_32 ?_
    exact zo_iret hC rfl dX8_about_33

def f_X8_about_22 (v1 : Int32) (I : e_I) : Option (Int32 × e_I) :=
  f_X8_about_23 v1 0 I
set_option maxRecDepth 100000 in
set_option maxHeartbeats 4000000 in
theorem Zf_X8_about_22 {X : e_X} (hC : e_C X cX8_about RX8 2 (some .int) 1 gN) (L : e_L) (v1 : Int32) (I : e_I) : Zo X (ph_iI L) (f_X8_about_22 v1 I) 22 [(0, .ref 83), (1, .int v1)] [.ref 83] I L := by
  unfold f_X8_about_22
  refine zo_iconst (v := 0) hC (by decide) dX8_about_22 ?_
  exact Zf_X8_about_23 hC L v1 0 I

def f_X8_about (v1 : Int32) (I : e_I) : Option (Int32 × e_I) :=
  if (I 83 6) = 0 then (
    f_X8_about_22 v1 I)
  else (
    e_b1 (f_X8_in v1 0 8) (fun (r_2 : Int32) =>
    if r_2 = 0 then (
      f_X8_about_22 v1 I)
    else (
      f_X8_about_23 v1 1 I)))
set_option maxRecDepth 100000 in
set_option maxHeartbeats 4000000 in
theorem Zf_X8_about {X : e_X} (hC : e_C X cX8_about RX8 2 (some .int) 1 gN) (v1 : Int32) (I : e_I) (L : e_L) : Zo X (ph_iI L) (f_X8_about v1 I) 0 [(0, .ref 83), (1, .int v1)] [] I L := by
  unfold f_X8_about
  refine zo_aload_n hC dX8_about_0 rfl 0 rfl ?_
  refine zo_aload_n hC dX8_about_1 rfl 0 rfl ?_
  refine zo_getZ hC fk8_174 at_83 dX8_about_2 ?_
  refine zo_if_eq (tgt := 22) hC dX8_about_5 (by decide) (fun c_1 => ?_) (fun c_1 => ?_)
  · exact Zf_X8_about_22 hC L v1 I
  · refine zo_iload_n hC dX8_about_8 rfl 1 rfl ?_
    refine zo_iconst (v := 0) hC (by decide) dX8_about_9 ?_
    refine zo_bipush (v := 8) hC (by decide) dX8_about_10 ?_
    refine zo_callS_i hC [.int v1, .int 0, .int 8] [.ref 83] me_X8_in mlX8_83 sm_X8_in (fun p hp => T_X8_in v1 0 8 I L p hp) (by decide) rfl (Nat.le_of_ble_eq_true rfl) dX8_about_12 rfl (fun r_2 => ?_)
    refine zo_if_eq (tgt := 22) hC dX8_about_15 (by decide) (fun c_3 => ?_) (fun c_3 => ?_)
    · exact Zf_X8_about_22 hC L v1 I
    · refine zo_iconst (v := 1) hC (by decide) dX8_about_18 ?_
      refine zo_goto (tgt := 23) hC dX8_about_19 (by decide) ?_
      exact Zf_X8_about_23 hC L v1 1 I

theorem T_X8_about (v1 : Int32) (I : e_I) (L : e_L) (p : Int32 × e_I) (hp : f_X8_about v1 I = some p) : Mt yX8_about cX8_about 2 (some .int) 1 gN [.ref 83, .int v1] I L ((ph_iI L) p) := zo_enter hp (by decide) (Nat.le_of_ble_eq_true rfl) (fun X hC => Zf_X8_about hC v1 I L)
def f_X8_rule_43 (s0 : Int32) (I : e_I) : Option (Int32 × e_I) :=
  some (s0, I)
set_option maxRecDepth 100000 in
set_option maxHeartbeats 4000000 in
theorem Zf_X8_rule_43 {X : e_X} (hC : e_C X cX8_rule RX8 2 (some .int) 1 gN) (L : e_L) (s0 : Int32) (I : e_I) : Zo X (ph_iI L) (f_X8_rule_43 s0 I) 43 [] [.int s0] I L := by
  unfold f_X8_rule_43
  exact zo_iret hC rfl dX8_rule_43

def f_X8_rule_22 (v1 : Int32) (s0 : Int32) (I : e_I) : Option (Int32 × e_I) :=
  e_b1 (f_X8_unless s0) (fun (r_1 : Int32) =>
  e_b2 (f_X8_isRefused r_1 I) (fun (r_2 : Int32) (I_3 : e_I) =>
  if r_2 = 0 then (
    e_as (e_ix ((1 : Int32) + v1) 396 = true) (
    f_X8_rule_43 (I_3 85 ((1 : Int32) + v1).toNatClampNeg) I_3))
  else (
    f_X8_rule_43 (-1) I_3)))
set_option maxRecDepth 100000 in
set_option maxHeartbeats 4000000 in
theorem Zf_X8_rule_22 {X : e_X} (hC : e_C X cX8_rule RX8 2 (some .int) 1 gN) (L : e_L) (v1 : Int32) (s0 : Int32) (I : e_I) : Zo X (ph_iI L) (f_X8_rule_22 v1 s0 I) 22 [(0, .ref 83), (1, .int v1)] [.int s0, .ref 83] I L := by
  unfold f_X8_rule_22
  refine zo_callS_i hC [.int s0] [.ref 83] me_X8_unless mlX8_189 sm_X8_unless (fun p hp => T_X8_unless s0 I L p hp) (by decide) rfl (Nat.le_of_ble_eq_true rfl) dX8_rule_22 rfl (fun r_1 => ?_)
  refine zo_callV_iI hC (ci := 8) [.int r_1] [] me_X8_isRefused mlX8_162 im_X8_isRefused se_X8_isRefused rfl (by decide) at_83 (fun p hp => T_X8_isRefused r_1 I L p hp) (by decide) rfl (Nat.le_of_ble_eq_true rfl) dX8_rule_25 rfl (fun r_2 I_3 => ?_)
  refine zo_if_eq (tgt := 35) hC dX8_rule_28 (by decide) (fun c_4 => ?_) (fun c_4 => ?_)
  · refine zo_aload_n hC dX8_rule_35 rfl 0 rfl ?_
    refine zo_getR hC (r := 85) fk8_17 (by decide) gr_83_7 at_83 dX8_rule_36 ?_
    refine zo_iconst (v := 1) hC (by decide) dX8_rule_39 ?_
    refine zo_iload_n hC dX8_rule_40 rfl 1 rfl ?_
    refine zo_iadd hC dX8_rule_41 ?_
    refine zo_as (fun h_5 => ?_)
    refine zo_iald hC ar_85 (e_ix_vp h_5) dX8_rule_42 ?_
    refine zo_sub [] (lv' := []) rfl ?_
    exact Zf_X8_rule_43 hC L (I_3 85 ((1 : Int32) + v1).toNatClampNeg) I_3
  · refine zo_iconst (v := (-1)) hC (by decide) dX8_rule_31 ?_
    refine zo_goto (tgt := 43) hC dX8_rule_32 (by decide) ?_
    refine zo_sub [] (lv' := []) rfl ?_
    exact Zf_X8_rule_43 hC L (-1) I_3

def f_X8_rule_21 (v1 : Int32) (I : e_I) : Option (Int32 × e_I) :=
  f_X8_rule_22 v1 0 I
set_option maxRecDepth 100000 in
set_option maxHeartbeats 4000000 in
theorem Zf_X8_rule_21 {X : e_X} (hC : e_C X cX8_rule RX8 2 (some .int) 1 gN) (L : e_L) (v1 : Int32) (I : e_I) : Zo X (ph_iI L) (f_X8_rule_21 v1 I) 21 [(0, .ref 83), (1, .int v1)] [.ref 83] I L := by
  unfold f_X8_rule_21
  refine zo_iconst (v := 0) hC (by decide) dX8_rule_21 ?_
  exact Zf_X8_rule_22 hC L v1 0 I

def f_X8_rule (v1 : Int32) (I : e_I) : Option (Int32 × e_I) :=
  if (I 83 6) = 0 then (
    f_X8_rule_21 v1 I)
  else (
    e_b1 (f_X8_in v1 0 4) (fun (r_2 : Int32) =>
    if r_2 = 0 then (
      f_X8_rule_21 v1 I)
    else (
      f_X8_rule_22 v1 1 I)))
set_option maxRecDepth 100000 in
set_option maxHeartbeats 4000000 in
theorem Zf_X8_rule {X : e_X} (hC : e_C X cX8_rule RX8 2 (some .int) 1 gN) (v1 : Int32) (I : e_I) (L : e_L) : Zo X (ph_iI L) (f_X8_rule v1 I) 0 [(0, .ref 83), (1, .int v1)] [] I L := by
  unfold f_X8_rule
  refine zo_aload_n hC dX8_rule_0 rfl 0 rfl ?_
  refine zo_aload_n hC dX8_rule_1 rfl 0 rfl ?_
  refine zo_getZ hC fk8_174 at_83 dX8_rule_2 ?_
  refine zo_if_eq (tgt := 21) hC dX8_rule_5 (by decide) (fun c_1 => ?_) (fun c_1 => ?_)
  · exact Zf_X8_rule_21 hC L v1 I
  · refine zo_iload_n hC dX8_rule_8 rfl 1 rfl ?_
    refine zo_iconst (v := 0) hC (by decide) dX8_rule_9 ?_
    refine zo_iconst (v := 4) hC (by decide) dX8_rule_10 ?_
    refine zo_callS_i hC [.int v1, .int 0, .int 4] [.ref 83] me_X8_in mlX8_83 sm_X8_in (fun p hp => T_X8_in v1 0 4 I L p hp) (by decide) rfl (Nat.le_of_ble_eq_true rfl) dX8_rule_11 rfl (fun r_2 => ?_)
    refine zo_if_eq (tgt := 21) hC dX8_rule_14 (by decide) (fun c_3 => ?_) (fun c_3 => ?_)
    · exact Zf_X8_rule_21 hC L v1 I
    · refine zo_iconst (v := 1) hC (by decide) dX8_rule_17 ?_
      refine zo_goto (tgt := 22) hC dX8_rule_18 (by decide) ?_
      exact Zf_X8_rule_22 hC L v1 1 I

theorem T_X8_rule (v1 : Int32) (I : e_I) (L : e_L) (p : Int32 × e_I) (hp : f_X8_rule v1 I = some p) : Mt yX8_rule cX8_rule 2 (some .int) 1 gN [.ref 83, .int v1] I L ((ph_iI L) p) := zo_enter hp (by decide) (Nat.le_of_ble_eq_true rfl) (fun X hC => Zf_X8_rule hC v1 I L)
def f_X8_placeOf_2 (I : e_I) (v1 : Int32) (k21 : Int32 → Option (Int32)) : Nat → Int32 → Option (Int32)
  | 0, _ => none
  | n + 1, v2 =>
    e_as (e_ix ((60 : Int32) + v2) 396 = true) (
    if (I 85 ((60 : Int32) + v2).toNatClampNeg) = v1 then (
      k21 v2)
    else (
      e_let (v2 + 1) (fun (x_3 : Int32) =>
      f_X8_placeOf_2 I v1 k21 n x_3)))
set_option maxRecDepth 100000 in
set_option maxHeartbeats 4000000 in
theorem Zf_X8_placeOf_2 {X : e_X} (hC : e_C X cX8_placeOf RX8 3 (some .int) 0 gN) (I : e_I) (L : e_L) (v1 : Int32) (k21 : Int32 → Option (Int32)) (hk21 : ∀ (v2 : Int32), Zo X (ph_i I L) (k21 v2) 21 [(2, .int v2)] [] I L) : ∀ (n : Nat) (v2 : Int32), Zo X (ph_i I L) (f_X8_placeOf_2 I v1 k21 n v2) 2 [(0, .ref 83), (1, .int v1), (2, .int v2)] [] I L := by
  intro n
  induction n with
  | zero => intro v2 p hp; cases hp
  | succ n ih =>
    intro v2
    unfold f_X8_placeOf_2
    refine zo_aload_n hC dX8_placeOf_2 rfl 0 rfl ?_
    refine zo_getR hC (r := 85) fk8_17 (by decide) gr_83_7 at_83 dX8_placeOf_3 ?_
    refine zo_bipush (v := 60) hC (by decide) dX8_placeOf_6 ?_
    refine zo_iload_n hC dX8_placeOf_8 rfl 2 rfl ?_
    refine zo_iadd hC dX8_placeOf_9 ?_
    refine zo_as (fun h_1 => ?_)
    refine zo_iald hC ar_85 (e_ix_vp h_1) dX8_placeOf_10 ?_
    refine zo_iload_n hC dX8_placeOf_11 rfl 1 rfl ?_
    refine zo_icmp_eq (tgt := 21) hC dX8_placeOf_12 (by decide) (fun c_2 => ?_) (fun c_2 => ?_)
    · refine zo_sub [2] (lv' := [(2, .int v2)]) rfl ?_
      exact hk21 v2
    · refine zo_iinc hC (x := v2) (fun x_3 => [(2, .int x_3), (0, .ref 83), (1, .int v1)]) dX8_placeOf_15 2 rfl (by rfl) (by decide) (fun _ => rfl) (fun x_3 => ?_)
      refine zo_goto (tgt := 2) hC dX8_placeOf_18 (by decide) ?_
      refine zo_sub [1, 2, 0] (lv' := [(0, .ref 83), (1, .int v1), (2, .int x_3)]) rfl ?_
      exact ih x_3

def f_X8_placeOf (v1 : Int32) (I : e_I) : Option (Int32) :=
  f_X8_placeOf_2 I v1 (fun (v2_1 : Int32) =>
    some v2_1) e_FU 0
set_option maxRecDepth 100000 in
set_option maxHeartbeats 4000000 in
theorem Zf_X8_placeOf {X : e_X} (hC : e_C X cX8_placeOf RX8 3 (some .int) 0 gN) (v1 : Int32) (I : e_I) (L : e_L) : Zo X (ph_i I L) (f_X8_placeOf v1 I) 0 [(0, .ref 83), (1, .int v1)] [] I L := by
  unfold f_X8_placeOf
  refine zo_iconst (v := 0) hC (by decide) dX8_placeOf_0 ?_
  refine zo_istore_n (lv' := [(2, .int 0), (0, .ref 83), (1, .int v1)]) hC dX8_placeOf_1 rfl (by decide) rfl ?_
  refine zo_sub [1, 2, 0] (lv' := [(0, .ref 83), (1, .int v1), (2, .int 0)]) rfl ?_
  refine Zf_X8_placeOf_2 hC I L v1 _ (fun v2_1 => ?_) e_FU 0
  · refine zo_iload_n hC dX8_placeOf_21 rfl 0 rfl ?_
    exact zo_iret hC rfl dX8_placeOf_22

theorem T_X8_placeOf (v1 : Int32) (I : e_I) (L : e_L) (p : Int32) (hp : f_X8_placeOf v1 I = some p) : Mt yX8_placeOf cX8_placeOf 3 (some .int) 0 gN [.ref 83, .int v1] I L ((ph_i I L) p) := zo_enter hp (by decide) (Nat.le_of_ble_eq_true rfl) (fun X hC => Zf_X8_placeOf hC v1 I L)
def f_X8_logged (v1 : Int32) (v2 : Int32) (I : e_I) : Option (Int32) :=
  e_as (e_ix (((76 : Int32) + ((8 : Int32) * (((I 85 (75 : Int32).toNatClampNeg) - 1) - v1))) + v2) 396 = true) (
  some (I 85 (((76 : Int32) + ((8 : Int32) * (((I 85 (75 : Int32).toNatClampNeg) - 1) - v1))) + v2).toNatClampNeg))
set_option maxRecDepth 100000 in
set_option maxHeartbeats 4000000 in
theorem Zf_X8_logged {X : e_X} (hC : e_C X cX8_logged RX8 3 (some .int) 0 gN) (v1 : Int32) (v2 : Int32) (I : e_I) (L : e_L) : Zo X (ph_i I L) (f_X8_logged v1 v2 I) 0 [(0, .ref 83), (1, .int v1), (2, .int v2)] [] I L := by
  unfold f_X8_logged
  refine zo_aload_n hC dX8_logged_0 rfl 0 rfl ?_
  refine zo_getR hC (r := 85) fk8_17 (by decide) gr_83_7 at_83 dX8_logged_1 ?_
  refine zo_bipush (v := 76) hC (by decide) dX8_logged_4 ?_
  refine zo_bipush (v := 8) hC (by decide) dX8_logged_6 ?_
  refine zo_aload_n hC dX8_logged_8 rfl 0 rfl ?_
  refine zo_getR hC (r := 85) fk8_17 (by decide) gr_83_7 at_83 dX8_logged_9 ?_
  refine zo_bipush (v := 75) hC (by decide) dX8_logged_12 ?_
  refine zo_iald hC ar_85 (e_ix_vp (by decide)) dX8_logged_14 ?_
  refine zo_iconst (v := 1) hC (by decide) dX8_logged_15 ?_
  refine zo_isub hC dX8_logged_16 ?_
  refine zo_iload_n hC dX8_logged_17 rfl 1 rfl ?_
  refine zo_isub hC dX8_logged_18 ?_
  refine zo_imul hC dX8_logged_19 ?_
  refine zo_iadd hC dX8_logged_20 ?_
  refine zo_iload_n hC dX8_logged_21 rfl 2 rfl ?_
  refine zo_iadd hC dX8_logged_22 ?_
  refine zo_as (fun h_1 => ?_)
  refine zo_iald hC ar_85 (e_ix_vp h_1) dX8_logged_23 ?_
  exact zo_iret hC rfl dX8_logged_24

theorem T_X8_logged (v1 : Int32) (v2 : Int32) (I : e_I) (L : e_L) (p : Int32) (hp : f_X8_logged v1 v2 I = some p) : Mt yX8_logged cX8_logged 3 (some .int) 0 gN [.ref 83, .int v1, .int v2] I L ((ph_i I L) p) := zo_enter hp (by decide) (Nat.le_of_ble_eq_true rfl) (fun X hC => Zf_X8_logged hC v1 v2 I L)
def f_X8_batter_118 (v1 : Int32) (v2 : Int32) (k73 : Int32 → Int32 → e_I → Option (Int32 × e_I)) (k126 : Int32 → e_I → Option (Int32 × e_I)) (v4 : Int32) (s0 : Int32) (s1 : Int32) (I : e_I) : Option (Int32 × e_I) :=
  e_let (s1 + s0) (fun (x_1 : Int32) =>
  e_let (v4 + 1) (fun (x_2 : Int32) =>
  k73 x_1 x_2 I))
set_option maxRecDepth 100000 in
set_option maxHeartbeats 4000000 in
theorem Zf_X8_batter_118 {X : e_X} (hC : e_C X cX8_batter RX8 5 (some .int) 2 gN) (L : e_L) (v1 : Int32) (v2 : Int32) (k73 : Int32 → Int32 → e_I → Option (Int32 × e_I)) (k126 : Int32 → e_I → Option (Int32 × e_I)) (hk73 : ∀ (v3 : Int32) (v4 : Int32) (I : e_I), Zo X (ph_iI L) (k73 v3 v4 I) 73 [(0, .ref 83), (1, .int v1), (2, .int v2), (3, .int v3), (4, .int v4)] [] I L) (hk126 : ∀ (v3 : Int32) (I : e_I), Zo X (ph_iI L) (k126 v3 I) 126 [(3, .int v3)] [] I L) (v4 : Int32) (s0 : Int32) (s1 : Int32) (I : e_I) : Zo X (ph_iI L) (f_X8_batter_118 v1 v2 k73 k126 v4 s0 s1 I) 118 [(0, .ref 83), (1, .int v1), (2, .int v2), (4, .int v4)] [.int s0, .int s1] I L := by
  unfold f_X8_batter_118
  refine zo_iadd hC dX8_batter_118 ?_
  refine zo_topi (fun x_1 => ?_)
  refine zo_istore_n (lv' := [(3, .int x_1), (0, .ref 83), (1, .int v1), (2, .int v2), (4, .int v4)]) hC dX8_batter_119 rfl (by decide) rfl ?_
  refine zo_iinc hC (x := v4) (fun x_2 => [(4, .int x_2), (3, .int x_1), (0, .ref 83), (1, .int v1), (2, .int v2)]) dX8_batter_120 4 rfl (by rfl) (by decide) (fun _ => rfl) (fun x_2 => ?_)
  refine zo_goto (tgt := 73) hC dX8_batter_123 (by decide) ?_
  refine zo_sub [2, 3, 4, 1, 0] (lv' := [(0, .ref 83), (1, .int v1), (2, .int v2), (3, .int x_1), (4, .int x_2)]) rfl ?_
  exact hk73 x_1 x_2 I

def f_X8_batter_73 (v1 : Int32) (v2 : Int32) (k126 : Int32 → e_I → Option (Int32 × e_I)) : Nat → Int32 → Int32 → e_I → Option (Int32 × e_I)
  | 0, _, _, _ => none
  | n + 1, v3, v4, I =>
    if v4 ≥ (I 85 (75 : Int32).toNatClampNeg) then (
      k126 v3 I)
    else (
      e_b1 (f_X8_logged v4 0 I) (fun (r_2 : Int32) =>
      if r_2 = v1 then (
        if v2 ≠ 7 then (
          e_b1 (f_X8_logged v4 2 I) (fun (r_5 : Int32) =>
          f_X8_batter_118 v1 v2 (fun v3 v4 I => f_X8_batter_73 v1 v2 k126 n v3 v4 I) k126 v4 r_5 v3 I))
        else (
          f_X8_batter_118 v1 v2 (fun v3 v4 I => f_X8_batter_73 v1 v2 k126 n v3 v4 I) k126 v4 1 v3 I))
      else (
        f_X8_batter_118 v1 v2 (fun v3 v4 I => f_X8_batter_73 v1 v2 k126 n v3 v4 I) k126 v4 0 v3 I)))
set_option maxRecDepth 100000 in
set_option maxHeartbeats 4000000 in
theorem Zf_X8_batter_73 {X : e_X} (hC : e_C X cX8_batter RX8 5 (some .int) 2 gN) (L : e_L) (v1 : Int32) (v2 : Int32) (k126 : Int32 → e_I → Option (Int32 × e_I)) (hk126 : ∀ (v3 : Int32) (I : e_I), Zo X (ph_iI L) (k126 v3 I) 126 [(3, .int v3)] [] I L) : ∀ (n : Nat) (v3 : Int32) (v4 : Int32) (I : e_I), Zo X (ph_iI L) (f_X8_batter_73 v1 v2 k126 n v3 v4 I) 73 [(0, .ref 83), (1, .int v1), (2, .int v2), (3, .int v3), (4, .int v4)] [] I L := by
  intro n
  induction n with
  | zero => intro v3 v4 I p hp; cases hp
  | succ n ih =>
    intro v3 v4 I
    unfold f_X8_batter_73
    refine zo_iload hC dX8_batter_73 4 rfl ?_
    refine zo_aload_n hC dX8_batter_75 rfl 0 rfl ?_
    refine zo_getR hC (r := 85) fk8_17 (by decide) gr_83_7 at_83 dX8_batter_76 ?_
    refine zo_bipush (v := 75) hC (by decide) dX8_batter_79 ?_
    refine zo_iald hC ar_85 (e_ix_vp (by decide)) dX8_batter_81 ?_
    refine zo_icmp_ge (tgt := 126) hC dX8_batter_82 (by decide) (fun c_1 => ?_) (fun c_1 => ?_)
    · refine zo_sub [3] (lv' := [(3, .int v3)]) rfl ?_
      exact hk126 v3 I
    · refine zo_iload_n hC dX8_batter_85 rfl 3 rfl ?_
      refine zo_aload_n hC dX8_batter_86 rfl 0 rfl ?_
      refine zo_iload hC dX8_batter_87 4 rfl ?_
      refine zo_iconst (v := 0) hC (by decide) dX8_batter_89 ?_
      refine zo_callV_i hC (ci := 8) [.int v4, .int 0] [.int v3] me_X8_logged mlX8_198 im_X8_logged se_X8_logged rfl (by decide) at_83 (fun p hp => T_X8_logged v4 0 I L p hp) (by decide) rfl (Nat.le_of_ble_eq_true rfl) dX8_batter_90 rfl (fun r_2 => ?_)
      refine zo_iload_n hC dX8_batter_93 rfl 1 rfl ?_
      refine zo_icmp_eq (tgt := 101) hC dX8_batter_94 (by decide) (fun c_3 => ?_) (fun c_3 => ?_)
      · refine zo_iload_n hC dX8_batter_101 rfl 2 rfl ?_
        refine zo_bipush (v := 7) hC (by decide) dX8_batter_102 ?_
        refine zo_icmp_ne (tgt := 111) hC dX8_batter_104 (by decide) (fun c_4 => ?_) (fun c_4 => ?_)
        · refine zo_aload_n hC dX8_batter_111 rfl 0 rfl ?_
          refine zo_iload hC dX8_batter_112 4 rfl ?_
          refine zo_iconst (v := 2) hC (by decide) dX8_batter_114 ?_
          refine zo_callV_i hC (ci := 8) [.int v4, .int 2] [.int v3] me_X8_logged mlX8_198 im_X8_logged se_X8_logged rfl (by decide) at_83 (fun p hp => T_X8_logged v4 2 I L p hp) (by decide) rfl (Nat.le_of_ble_eq_true rfl) dX8_batter_115 rfl (fun r_5 => ?_)
          refine zo_sub [0, 1, 2, 4] (lv' := [(0, .ref 83), (1, .int v1), (2, .int v2), (4, .int v4)]) rfl ?_
          exact Zf_X8_batter_118 hC L v1 v2 (fun v3 v4 I => f_X8_batter_73 v1 v2 k126 n v3 v4 I) k126 (fun v3 v4 I => ih v3 v4 I) hk126 v4 r_5 v3 I
        · refine zo_iconst (v := 1) hC (by decide) dX8_batter_107 ?_
          refine zo_goto (tgt := 118) hC dX8_batter_108 (by decide) ?_
          refine zo_sub [0, 1, 2, 4] (lv' := [(0, .ref 83), (1, .int v1), (2, .int v2), (4, .int v4)]) rfl ?_
          exact Zf_X8_batter_118 hC L v1 v2 (fun v3 v4 I => f_X8_batter_73 v1 v2 k126 n v3 v4 I) k126 (fun v3 v4 I => ih v3 v4 I) hk126 v4 1 v3 I
      · refine zo_iconst (v := 0) hC (by decide) dX8_batter_97 ?_
        refine zo_goto (tgt := 118) hC dX8_batter_98 (by decide) ?_
        refine zo_sub [0, 1, 2, 4] (lv' := [(0, .ref 83), (1, .int v1), (2, .int v2), (4, .int v4)]) rfl ?_
        exact Zf_X8_batter_118 hC L v1 v2 (fun v3 v4 I => f_X8_batter_73 v1 v2 k126 n v3 v4 I) k126 (fun v3 v4 I => ih v3 v4 I) hk126 v4 0 v3 I

def f_X8_batter_24 (v1 : Int32) (v2 : Int32) (s0 : Int32) (I : e_I) : Option (Int32 × e_I) :=
  e_b1 (f_X8_unless s0) (fun (r_1 : Int32) =>
  e_b2 (f_X8_isRefused r_1 I) (fun (r_2 : Int32) (I_3 : e_I) =>
  if r_2 = 0 then (
    if v2 ≥ 6 then (
      if v2 ≠ 6 then (
        f_X8_batter_73 v1 v2 (fun (v3_7 : Int32) (I_8 : e_I) =>
          some (v3_7, I_8)) e_FU 0 0 I_3)
      else (
        e_b1 (f_X8_placeOf v1 I_3) (fun (r_9 : Int32) =>
        some (r_9, I_3))))
    else (
      e_as (e_ix (((6 : Int32) + ((6 : Int32) * v1)) + v2) 396 = true) (
      some ((I_3 85 (((6 : Int32) + ((6 : Int32) * v1)) + v2).toNatClampNeg), I_3))))
  else (
    some ((-1), I_3))))
set_option maxRecDepth 100000 in
set_option maxHeartbeats 4000000 in
theorem Zf_X8_batter_24 {X : e_X} (hC : e_C X cX8_batter RX8 5 (some .int) 2 gN) (L : e_L) (v1 : Int32) (v2 : Int32) (s0 : Int32) (I : e_I) : Zo X (ph_iI L) (f_X8_batter_24 v1 v2 s0 I) 24 [(0, .ref 83), (1, .int v1), (2, .int v2)] [.int s0, .ref 83] I L := by
  unfold f_X8_batter_24
  refine zo_callS_i hC [.int s0] [.ref 83] me_X8_unless mlX8_189 sm_X8_unless (fun p hp => T_X8_unless s0 I L p hp) (by decide) rfl (Nat.le_of_ble_eq_true rfl) dX8_batter_24 rfl (fun r_1 => ?_)
  refine zo_callV_iI hC (ci := 8) [.int r_1] [] me_X8_isRefused mlX8_162 im_X8_isRefused se_X8_isRefused rfl (by decide) at_83 (fun p hp => T_X8_isRefused r_1 I L p hp) (by decide) rfl (Nat.le_of_ble_eq_true rfl) dX8_batter_27 rfl (fun r_2 I_3 => ?_)
  refine zo_if_eq (tgt := 35) hC dX8_batter_30 (by decide) (fun c_4 => ?_) (fun c_4 => ?_)
  · refine zo_iload_n hC dX8_batter_35 rfl 2 rfl ?_
    refine zo_bipush (v := 6) hC (by decide) dX8_batter_36 ?_
    refine zo_icmp_ge (tgt := 56) hC dX8_batter_38 (by decide) (fun c_5 => ?_) (fun c_5 => ?_)
    · refine zo_iload_n hC dX8_batter_56 rfl 2 rfl ?_
      refine zo_bipush (v := 6) hC (by decide) dX8_batter_57 ?_
      refine zo_icmp_ne (tgt := 68) hC dX8_batter_59 (by decide) (fun c_6 => ?_) (fun c_6 => ?_)
      · refine zo_iconst (v := 0) hC (by decide) dX8_batter_68 ?_
        refine zo_istore_n (lv' := [(3, .int 0), (0, .ref 83), (1, .int v1), (2, .int v2)]) hC dX8_batter_69 rfl (by decide) rfl ?_
        refine zo_iconst (v := 0) hC (by decide) dX8_batter_70 ?_
        refine zo_istore (lv' := [(4, .int 0), (3, .int 0), (0, .ref 83), (1, .int v1), (2, .int v2)]) hC dX8_batter_71 (by decide) rfl ?_
        refine zo_sub [2, 3, 4, 1, 0] (lv' := [(0, .ref 83), (1, .int v1), (2, .int v2), (3, .int 0), (4, .int 0)]) rfl ?_
        refine Zf_X8_batter_73 hC L v1 v2 _ (fun v3_7 I_8 => ?_) e_FU 0 0 I_3
        · refine zo_iload_n hC dX8_batter_126 rfl 0 rfl ?_
          exact zo_iret hC rfl dX8_batter_127
      · refine zo_aload_n hC dX8_batter_62 rfl 0 rfl ?_
        refine zo_iload_n hC dX8_batter_63 rfl 1 rfl ?_
        refine zo_callV_i hC (ci := 8) [.int v1] [] me_X8_placeOf mlX8_195 im_X8_placeOf se_X8_placeOf rfl (by decide) at_83 (fun p hp => T_X8_placeOf v1 I_3 L p hp) (by decide) rfl (Nat.le_of_ble_eq_true rfl) dX8_batter_64 rfl (fun r_9 => ?_)
        exact zo_iret hC rfl dX8_batter_67
    · refine zo_aload_n hC dX8_batter_41 rfl 0 rfl ?_
      refine zo_getR hC (r := 85) fk8_17 (by decide) gr_83_7 at_83 dX8_batter_42 ?_
      refine zo_bipush (v := 6) hC (by decide) dX8_batter_45 ?_
      refine zo_bipush (v := 6) hC (by decide) dX8_batter_47 ?_
      refine zo_iload_n hC dX8_batter_49 rfl 1 rfl ?_
      refine zo_imul hC dX8_batter_50 ?_
      refine zo_iadd hC dX8_batter_51 ?_
      refine zo_iload_n hC dX8_batter_52 rfl 2 rfl ?_
      refine zo_iadd hC dX8_batter_53 ?_
      refine zo_as (fun h_10 => ?_)
      refine zo_iald hC ar_85 (e_ix_vp h_10) dX8_batter_54 ?_
      exact zo_iret hC rfl dX8_batter_55
  · refine zo_iconst (v := (-1)) hC (by decide) dX8_batter_33 ?_
    exact zo_iret hC rfl dX8_batter_34

def f_X8_batter_23 (v1 : Int32) (v2 : Int32) (I : e_I) : Option (Int32 × e_I) :=
  f_X8_batter_24 v1 v2 0 I
set_option maxRecDepth 100000 in
set_option maxHeartbeats 4000000 in
theorem Zf_X8_batter_23 {X : e_X} (hC : e_C X cX8_batter RX8 5 (some .int) 2 gN) (L : e_L) (v1 : Int32) (v2 : Int32) (I : e_I) : Zo X (ph_iI L) (f_X8_batter_23 v1 v2 I) 23 [(0, .ref 83), (1, .int v1), (2, .int v2)] [.ref 83] I L := by
  unfold f_X8_batter_23
  refine zo_iconst (v := 0) hC (by decide) dX8_batter_23 ?_
  exact Zf_X8_batter_24 hC L v1 v2 0 I

def f_X8_batter (v1 : Int32) (v2 : Int32) (I : e_I) : Option (Int32 × e_I) :=
  e_b1 (f_X8_isBatter v1 I) (fun (r_1 : Int32) =>
  if r_1 = 0 then (
    f_X8_batter_23 v1 v2 I)
  else (
    e_b1 (f_X8_in v2 0 8) (fun (r_3 : Int32) =>
    if r_3 = 0 then (
      f_X8_batter_23 v1 v2 I)
    else (
      f_X8_batter_24 v1 v2 1 I))))
set_option maxRecDepth 100000 in
set_option maxHeartbeats 4000000 in
theorem Zf_X8_batter {X : e_X} (hC : e_C X cX8_batter RX8 5 (some .int) 2 gN) (v1 : Int32) (v2 : Int32) (I : e_I) (L : e_L) : Zo X (ph_iI L) (f_X8_batter v1 v2 I) 0 [(0, .ref 83), (1, .int v1), (2, .int v2)] [] I L := by
  unfold f_X8_batter
  refine zo_aload_n hC dX8_batter_0 rfl 0 rfl ?_
  refine zo_aload_n hC dX8_batter_1 rfl 0 rfl ?_
  refine zo_iload_n hC dX8_batter_2 rfl 1 rfl ?_
  refine zo_callV_i hC (ci := 8) [.int v1] [.ref 83] me_X8_isBatter mlX8_192 im_X8_isBatter se_X8_isBatter rfl (by decide) at_83 (fun p hp => T_X8_isBatter v1 I L p hp) (by decide) rfl (Nat.le_of_ble_eq_true rfl) dX8_batter_3 rfl (fun r_1 => ?_)
  refine zo_if_eq (tgt := 23) hC dX8_batter_6 (by decide) (fun c_2 => ?_) (fun c_2 => ?_)
  · exact Zf_X8_batter_23 hC L v1 v2 I
  · refine zo_iload_n hC dX8_batter_9 rfl 2 rfl ?_
    refine zo_iconst (v := 0) hC (by decide) dX8_batter_10 ?_
    refine zo_bipush (v := 8) hC (by decide) dX8_batter_11 ?_
    refine zo_callS_i hC [.int v2, .int 0, .int 8] [.ref 83] me_X8_in mlX8_83 sm_X8_in (fun p hp => T_X8_in v2 0 8 I L p hp) (by decide) rfl (Nat.le_of_ble_eq_true rfl) dX8_batter_13 rfl (fun r_3 => ?_)
    refine zo_if_eq (tgt := 23) hC dX8_batter_16 (by decide) (fun c_4 => ?_) (fun c_4 => ?_)
    · exact Zf_X8_batter_23 hC L v1 v2 I
    · refine zo_iconst (v := 1) hC (by decide) dX8_batter_19 ?_
      refine zo_goto (tgt := 24) hC dX8_batter_20 (by decide) ?_
      exact Zf_X8_batter_24 hC L v1 v2 1 I

theorem T_X8_batter (v1 : Int32) (v2 : Int32) (I : e_I) (L : e_L) (p : Int32 × e_I) (hp : f_X8_batter v1 v2 I = some p) : Mt yX8_batter cX8_batter 5 (some .int) 2 gN [.ref 83, .int v1, .int v2] I L ((ph_iI L) p) := zo_enter hp (by decide) (Nat.le_of_ble_eq_true rfl) (fun X hC => Zf_X8_batter hC v1 v2 I L)
def f_X8_place_28 (s0 : Int32) (I : e_I) : Option (Int32 × e_I) :=
  some (s0, I)
set_option maxRecDepth 100000 in
set_option maxHeartbeats 4000000 in
theorem Zf_X8_place_28 {X : e_X} (hC : e_C X cX8_place RX8 2 (some .int) 2 gN) (L : e_L) (s0 : Int32) (I : e_I) : Zo X (ph_iI L) (f_X8_place_28 s0 I) 28 [] [.int s0] I L := by
  unfold f_X8_place_28
  exact zo_iret hC rfl dX8_place_28

def f_X8_place (v1 : Int32) (I : e_I) : Option (Int32 × e_I) :=
  e_b1 (f_X8_isBatter v1 I) (fun (r_1 : Int32) =>
  e_b1 (f_X8_unless r_1) (fun (r_2 : Int32) =>
  e_b2 (f_X8_isRefused r_2 I) (fun (r_3 : Int32) (I_4 : e_I) =>
  if r_3 = 0 then (
    e_as (e_ix ((60 : Int32) + v1) 396 = true) (
    f_X8_place_28 (I_4 85 ((60 : Int32) + v1).toNatClampNeg) I_4))
  else (
    f_X8_place_28 (-1) I_4))))
set_option maxRecDepth 100000 in
set_option maxHeartbeats 4000000 in
theorem Zf_X8_place {X : e_X} (hC : e_C X cX8_place RX8 2 (some .int) 2 gN) (v1 : Int32) (I : e_I) (L : e_L) : Zo X (ph_iI L) (f_X8_place v1 I) 0 [(0, .ref 83), (1, .int v1)] [] I L := by
  unfold f_X8_place
  refine zo_aload_n hC dX8_place_0 rfl 0 rfl ?_
  refine zo_aload_n hC dX8_place_1 rfl 0 rfl ?_
  refine zo_iload_n hC dX8_place_2 rfl 1 rfl ?_
  refine zo_callV_i hC (ci := 8) [.int v1] [.ref 83] me_X8_isBatter mlX8_192 im_X8_isBatter se_X8_isBatter rfl (by decide) at_83 (fun p hp => T_X8_isBatter v1 I L p hp) (by decide) rfl (Nat.le_of_ble_eq_true rfl) dX8_place_3 rfl (fun r_1 => ?_)
  refine zo_callS_i hC [.int r_1] [.ref 83] me_X8_unless mlX8_189 sm_X8_unless (fun p hp => T_X8_unless r_1 I L p hp) (by decide) rfl (Nat.le_of_ble_eq_true rfl) dX8_place_6 rfl (fun r_2 => ?_)
  refine zo_callV_iI hC (ci := 8) [.int r_2] [] me_X8_isRefused mlX8_162 im_X8_isRefused se_X8_isRefused rfl (by decide) at_83 (fun p hp => T_X8_isRefused r_2 I L p hp) (by decide) rfl (Nat.le_of_ble_eq_true rfl) dX8_place_9 rfl (fun r_3 I_4 => ?_)
  refine zo_if_eq (tgt := 19) hC dX8_place_12 (by decide) (fun c_5 => ?_) (fun c_5 => ?_)
  · refine zo_aload_n hC dX8_place_19 rfl 0 rfl ?_
    refine zo_getR hC (r := 85) fk8_17 (by decide) gr_83_7 at_83 dX8_place_20 ?_
    refine zo_bipush (v := 60) hC (by decide) dX8_place_23 ?_
    refine zo_iload_n hC dX8_place_25 rfl 1 rfl ?_
    refine zo_iadd hC dX8_place_26 ?_
    refine zo_as (fun h_6 => ?_)
    refine zo_iald hC ar_85 (e_ix_vp h_6) dX8_place_27 ?_
    refine zo_sub [] (lv' := []) rfl ?_
    exact Zf_X8_place_28 hC L (I_4 85 ((60 : Int32) + v1).toNatClampNeg) I_4
  · refine zo_iconst (v := (-1)) hC (by decide) dX8_place_15 ?_
    refine zo_goto (tgt := 28) hC dX8_place_16 (by decide) ?_
    refine zo_sub [] (lv' := []) rfl ?_
    exact Zf_X8_place_28 hC L (-1) I_4

theorem T_X8_place (v1 : Int32) (I : e_I) (L : e_L) (p : Int32 × e_I) (hp : f_X8_place v1 I = some p) : Mt yX8_place cX8_place 2 (some .int) 2 gN [.ref 83, .int v1] I L ((ph_iI L) p) := zo_enter hp (by decide) (Nat.le_of_ble_eq_true rfl) (fun X hC => Zf_X8_place hC v1 I L)
def f_X8_coming_65 (s0 : Int32) (I : e_I) : Option (Int32 × e_I) :=
  some (s0, I)
set_option maxRecDepth 100000 in
set_option maxHeartbeats 4000000 in
theorem Zf_X8_coming_65 {X : e_X} (hC : e_C X cX8_coming RX8 2 (some .int) 1 gN) (L : e_L) (s0 : Int32) (I : e_I) : Zo X (ph_iI L) (f_X8_coming_65 s0 I) 65 [] [.int s0] I L := by
  unfold f_X8_coming_65
  exact zo_iret hC rfl dX8_coming_65

def f_X8_coming_17 (v1 : Int32) (s0 : Int32) (I : e_I) : Option (Int32 × e_I) :=
  e_b1 (f_X8_unless s0) (fun (r_1 : Int32) =>
  e_b2 (f_X8_isRefused r_1 I) (fun (r_2 : Int32) (I_3 : e_I) =>
  if r_2 = 0 then (
    e_b1 (f_X8_placeOf (I_3 85 (72 : Int32).toNatClampNeg) I_3) (fun (r_5 : Int32) =>
    e_as (¬ (I_3 85 (0 : Int32).toNatClampNeg) = 0) (
    e_as (¬ (I_3 85 (0 : Int32).toNatClampNeg) = 0) (
    e_as (e_ix ((60 : Int32) + (e_rm (r_5 + (e_rm v1 (I_3 85 (0 : Int32).toNatClampNeg))) (I_3 85 (0 : Int32).toNatClampNeg))) 396 = true) (
    f_X8_coming_65 (I_3 85 ((60 : Int32) + (e_rm (r_5 + (e_rm v1 (I_3 85 (0 : Int32).toNatClampNeg))) (I_3 85 (0 : Int32).toNatClampNeg))).toNatClampNeg) I_3)))))
  else (
    f_X8_coming_65 (-1) I_3)))
set_option maxRecDepth 100000 in
set_option maxHeartbeats 4000000 in
theorem Zf_X8_coming_17 {X : e_X} (hC : e_C X cX8_coming RX8 2 (some .int) 1 gN) (L : e_L) (v1 : Int32) (s0 : Int32) (I : e_I) : Zo X (ph_iI L) (f_X8_coming_17 v1 s0 I) 17 [(0, .ref 83), (1, .int v1)] [.int s0, .ref 83] I L := by
  unfold f_X8_coming_17
  refine zo_callS_i hC [.int s0] [.ref 83] me_X8_unless mlX8_189 sm_X8_unless (fun p hp => T_X8_unless s0 I L p hp) (by decide) rfl (Nat.le_of_ble_eq_true rfl) dX8_coming_17 rfl (fun r_1 => ?_)
  refine zo_callV_iI hC (ci := 8) [.int r_1] [] me_X8_isRefused mlX8_162 im_X8_isRefused se_X8_isRefused rfl (by decide) at_83 (fun p hp => T_X8_isRefused r_1 I L p hp) (by decide) rfl (Nat.le_of_ble_eq_true rfl) dX8_coming_20 rfl (fun r_2 I_3 => ?_)
  refine zo_if_eq (tgt := 30) hC dX8_coming_23 (by decide) (fun c_4 => ?_) (fun c_4 => ?_)
  · refine zo_aload_n hC dX8_coming_30 rfl 0 rfl ?_
    refine zo_getR hC (r := 85) fk8_17 (by decide) gr_83_7 at_83 dX8_coming_31 ?_
    refine zo_bipush (v := 60) hC (by decide) dX8_coming_34 ?_
    refine zo_aload_n hC dX8_coming_36 rfl 0 rfl ?_
    refine zo_aload_n hC dX8_coming_37 rfl 0 rfl ?_
    refine zo_getR hC (r := 85) fk8_17 (by decide) gr_83_7 at_83 dX8_coming_38 ?_
    refine zo_bipush (v := 72) hC (by decide) dX8_coming_41 ?_
    refine zo_iald hC ar_85 (e_ix_vp (by decide)) dX8_coming_43 ?_
    refine zo_callV_i hC (ci := 8) [.int (I_3 85 (72 : Int32).toNatClampNeg)] [.int 60, .ref 85] me_X8_placeOf mlX8_195 im_X8_placeOf se_X8_placeOf rfl (by decide) at_83 (fun p hp => T_X8_placeOf (I_3 85 (72 : Int32).toNatClampNeg) I_3 L p hp) (by decide) rfl (Nat.le_of_ble_eq_true rfl) dX8_coming_44 rfl (fun r_5 => ?_)
    refine zo_iload_n hC dX8_coming_47 rfl 1 rfl ?_
    refine zo_aload_n hC dX8_coming_48 rfl 0 rfl ?_
    refine zo_getR hC (r := 85) fk8_17 (by decide) gr_83_7 at_83 dX8_coming_49 ?_
    refine zo_iconst (v := 0) hC (by decide) dX8_coming_52 ?_
    refine zo_iald hC ar_85 (e_ix_vp (by decide)) dX8_coming_53 ?_
    refine zo_as (fun h_6 => ?_)
    refine zo_irem_ hC h_6 dX8_coming_54 ?_
    refine zo_iadd hC dX8_coming_55 ?_
    refine zo_aload_n hC dX8_coming_56 rfl 0 rfl ?_
    refine zo_getR hC (r := 85) fk8_17 (by decide) gr_83_7 at_83 dX8_coming_57 ?_
    refine zo_iconst (v := 0) hC (by decide) dX8_coming_60 ?_
    refine zo_iald hC ar_85 (e_ix_vp (by decide)) dX8_coming_61 ?_
    refine zo_as (fun h_7 => ?_)
    refine zo_irem_ hC h_7 dX8_coming_62 ?_
    refine zo_iadd hC dX8_coming_63 ?_
    refine zo_as (fun h_8 => ?_)
    refine zo_iald hC ar_85 (e_ix_vp h_8) dX8_coming_64 ?_
    refine zo_sub [] (lv' := []) rfl ?_
    exact Zf_X8_coming_65 hC L (I_3 85 ((60 : Int32) + (e_rm (r_5 + (e_rm v1 (I_3 85 (0 : Int32).toNatClampNeg))) (I_3 85 (0 : Int32).toNatClampNeg))).toNatClampNeg) I_3
  · refine zo_iconst (v := (-1)) hC (by decide) dX8_coming_26 ?_
    refine zo_goto (tgt := 65) hC dX8_coming_27 (by decide) ?_
    refine zo_sub [] (lv' := []) rfl ?_
    exact Zf_X8_coming_65 hC L (-1) I_3

def f_X8_coming_16 (v1 : Int32) (I : e_I) : Option (Int32 × e_I) :=
  f_X8_coming_17 v1 0 I
set_option maxRecDepth 100000 in
set_option maxHeartbeats 4000000 in
theorem Zf_X8_coming_16 {X : e_X} (hC : e_C X cX8_coming RX8 2 (some .int) 1 gN) (L : e_L) (v1 : Int32) (I : e_I) : Zo X (ph_iI L) (f_X8_coming_16 v1 I) 16 [(0, .ref 83), (1, .int v1)] [.ref 83] I L := by
  unfold f_X8_coming_16
  refine zo_iconst (v := 0) hC (by decide) dX8_coming_16 ?_
  exact Zf_X8_coming_17 hC L v1 0 I

def f_X8_coming (v1 : Int32) (I : e_I) : Option (Int32 × e_I) :=
  if (I 83 6) = 0 then (
    f_X8_coming_16 v1 I)
  else (
    if v1 < 0 then (
      f_X8_coming_16 v1 I)
    else (
      f_X8_coming_17 v1 1 I))
set_option maxRecDepth 100000 in
set_option maxHeartbeats 4000000 in
theorem Zf_X8_coming {X : e_X} (hC : e_C X cX8_coming RX8 2 (some .int) 1 gN) (v1 : Int32) (I : e_I) (L : e_L) : Zo X (ph_iI L) (f_X8_coming v1 I) 0 [(0, .ref 83), (1, .int v1)] [] I L := by
  unfold f_X8_coming
  refine zo_aload_n hC dX8_coming_0 rfl 0 rfl ?_
  refine zo_aload_n hC dX8_coming_1 rfl 0 rfl ?_
  refine zo_getZ hC fk8_174 at_83 dX8_coming_2 ?_
  refine zo_if_eq (tgt := 16) hC dX8_coming_5 (by decide) (fun c_1 => ?_) (fun c_1 => ?_)
  · exact Zf_X8_coming_16 hC L v1 I
  · refine zo_iload_n hC dX8_coming_8 rfl 1 rfl ?_
    refine zo_if_lt (tgt := 16) hC dX8_coming_9 (by decide) (fun c_2 => ?_) (fun c_2 => ?_)
    · exact Zf_X8_coming_16 hC L v1 I
    · refine zo_iconst (v := 1) hC (by decide) dX8_coming_12 ?_
      refine zo_goto (tgt := 17) hC dX8_coming_13 (by decide) ?_
      exact Zf_X8_coming_17 hC L v1 1 I

theorem T_X8_coming (v1 : Int32) (I : e_I) (L : e_L) (p : Int32 × e_I) (hp : f_X8_coming v1 I = some p) : Mt yX8_coming cX8_coming 2 (some .int) 1 gN [.ref 83, .int v1] I L ((ph_iI L) p) := zo_enter hp (by decide) (Nat.le_of_ble_eq_true rfl) (fun X hC => Zf_X8_coming hC v1 I L)
def f_X8_chanceOf_75 (I : e_I) (s0 : Int32) (s1 : Int32) : Option (Int32) :=
  some (s1 + s0)
set_option maxRecDepth 100000 in
set_option maxHeartbeats 4000000 in
theorem Zf_X8_chanceOf_75 {X : e_X} (hC : e_C X cX8_chanceOf RX8 7 (some .int) 0 gN) (I : e_I) (L : e_L) (s0 : Int32) (s1 : Int32) : Zo X (ph_i I L) (f_X8_chanceOf_75 I s0 s1) 75 [] [.int s0, .int s1] I L := by
  unfold f_X8_chanceOf_75
  refine zo_iadd hC dX8_chanceOf_75 ?_
  exact zo_iret hC rfl dX8_chanceOf_76

def f_X8_chanceOf_38 (I : e_I) (v1 : Int32) (v2 : Int32) (s0 : Int32) : Option (Int32) :=
  e_as (e_ix (((6 : Int32) + ((6 : Int32) * v1)) + v2) 396 = true) (
  if v2 ≠ 0 then (
    if v2 ≠ 2 then (
      f_X8_chanceOf_75 I 0 (I 85 (((6 : Int32) + ((6 : Int32) * v1)) + v2).toNatClampNeg))
    else (
      f_X8_chanceOf_75 I s0 (I 85 (((6 : Int32) + ((6 : Int32) * v1)) + v2).toNatClampNeg)))
  else (
    f_X8_chanceOf_75 I (-s0) (I 85 (((6 : Int32) + ((6 : Int32) * v1)) + v2).toNatClampNeg)))
set_option maxRecDepth 100000 in
set_option maxHeartbeats 4000000 in
theorem Zf_X8_chanceOf_38 {X : e_X} (hC : e_C X cX8_chanceOf RX8 7 (some .int) 0 gN) (I : e_I) (L : e_L) (v1 : Int32) (v2 : Int32) (s0 : Int32) : Zo X (ph_i I L) (f_X8_chanceOf_38 I v1 v2 s0) 38 [(0, .ref 83), (1, .int v1), (2, .int v2)] [.int s0] I L := by
  unfold f_X8_chanceOf_38
  refine zo_istore (lv' := [(6, .int s0), (0, .ref 83), (1, .int v1), (2, .int v2)]) hC dX8_chanceOf_38 (by decide) rfl ?_
  refine zo_aload_n hC dX8_chanceOf_40 rfl 1 rfl ?_
  refine zo_getR hC (r := 85) fk8_17 (by decide) gr_83_7 at_83 dX8_chanceOf_41 ?_
  refine zo_bipush (v := 6) hC (by decide) dX8_chanceOf_44 ?_
  refine zo_bipush (v := 6) hC (by decide) dX8_chanceOf_46 ?_
  refine zo_iload_n hC dX8_chanceOf_48 rfl 2 rfl ?_
  refine zo_imul hC dX8_chanceOf_49 ?_
  refine zo_iadd hC dX8_chanceOf_50 ?_
  refine zo_iload_n hC dX8_chanceOf_51 rfl 3 rfl ?_
  refine zo_iadd hC dX8_chanceOf_52 ?_
  refine zo_as (fun h_1 => ?_)
  refine zo_iald hC ar_85 (e_ix_vp h_1) dX8_chanceOf_53 ?_
  refine zo_iload_n hC dX8_chanceOf_54 rfl 3 rfl ?_
  refine zo_if_ne (tgt := 64) hC dX8_chanceOf_55 (by decide) (fun c_2 => ?_) (fun c_2 => ?_)
  · refine zo_iload_n hC dX8_chanceOf_64 rfl 3 rfl ?_
    refine zo_iconst (v := 2) hC (by decide) dX8_chanceOf_65 ?_
    refine zo_icmp_ne (tgt := 74) hC dX8_chanceOf_66 (by decide) (fun c_3 => ?_) (fun c_3 => ?_)
    · refine zo_iconst (v := 0) hC (by decide) dX8_chanceOf_74 ?_
      refine zo_sub [] (lv' := []) rfl ?_
      exact Zf_X8_chanceOf_75 hC I L 0 (I 85 (((6 : Int32) + ((6 : Int32) * v1)) + v2).toNatClampNeg)
    · refine zo_iload hC dX8_chanceOf_69 0 rfl ?_
      refine zo_goto (tgt := 75) hC dX8_chanceOf_71 (by decide) ?_
      refine zo_sub [] (lv' := []) rfl ?_
      exact Zf_X8_chanceOf_75 hC I L s0 (I 85 (((6 : Int32) + ((6 : Int32) * v1)) + v2).toNatClampNeg)
  · refine zo_iload hC dX8_chanceOf_58 0 rfl ?_
    refine zo_ineg hC dX8_chanceOf_60 ?_
    refine zo_goto (tgt := 75) hC dX8_chanceOf_61 (by decide) ?_
    refine zo_sub [] (lv' := []) rfl ?_
    exact Zf_X8_chanceOf_75 hC I L (-s0) (I 85 (((6 : Int32) + ((6 : Int32) * v1)) + v2).toNatClampNeg)

def f_X8_chanceOf (v1 : Int32) (v2 : Int32) (v3 : Int32) (I : e_I) : Option (Int32) :=
  e_as (e_ix ((6 : Int32) + ((6 : Int32) * v1)) 396 = true) (
  e_let (I 85 ((6 : Int32) + ((6 : Int32) * v1)).toNatClampNeg) (fun (x_2 : Int32) =>
  e_as (¬ (I 85 (5 : Int32).toNatClampNeg) = 0) (
  e_let (v3 / (I 85 (5 : Int32).toNatClampNeg)) (fun (x_4 : Int32) =>
  if x_4 ≥ x_2 then (
    f_X8_chanceOf_38 I v1 v2 x_2)
  else (
    f_X8_chanceOf_38 I v1 v2 x_4)))))
set_option maxRecDepth 100000 in
set_option maxHeartbeats 4000000 in
theorem Zf_X8_chanceOf {X : e_X} (hC : e_C X cX8_chanceOf RX8 7 (some .int) 0 gN) (v1 : Int32) (v2 : Int32) (v3 : Int32) (I : e_I) (L : e_L) : Zo X (ph_i I L) (f_X8_chanceOf v1 v2 v3 I) 0 [(0, .ref 83), (1, .int v1), (2, .int v2), (3, .int v3)] [] I L := by
  unfold f_X8_chanceOf
  refine zo_aload_n hC dX8_chanceOf_0 rfl 0 rfl ?_
  refine zo_getR hC (r := 85) fk8_17 (by decide) gr_83_7 at_83 dX8_chanceOf_1 ?_
  refine zo_bipush (v := 6) hC (by decide) dX8_chanceOf_4 ?_
  refine zo_bipush (v := 6) hC (by decide) dX8_chanceOf_6 ?_
  refine zo_iload_n hC dX8_chanceOf_8 rfl 1 rfl ?_
  refine zo_imul hC dX8_chanceOf_9 ?_
  refine zo_iadd hC dX8_chanceOf_10 ?_
  refine zo_as (fun h_1 => ?_)
  refine zo_iald hC ar_85 (e_ix_vp h_1) dX8_chanceOf_11 ?_
  refine zo_topi (fun x_2 => ?_)
  refine zo_istore (lv' := [(4, .int x_2), (0, .ref 83), (1, .int v1), (2, .int v2), (3, .int v3)]) hC dX8_chanceOf_12 (by decide) rfl ?_
  refine zo_iload_n hC dX8_chanceOf_14 rfl 4 rfl ?_
  refine zo_aload_n hC dX8_chanceOf_15 rfl 1 rfl ?_
  refine zo_getR hC (r := 85) fk8_17 (by decide) gr_83_7 at_83 dX8_chanceOf_16 ?_
  refine zo_iconst (v := 5) hC (by decide) dX8_chanceOf_19 ?_
  refine zo_iald hC ar_85 (e_ix_vp (by decide)) dX8_chanceOf_20 ?_
  refine zo_as (fun h_3 => ?_)
  refine zo_idiv hC h_3 dX8_chanceOf_21 ?_
  refine zo_topi (fun x_4 => ?_)
  refine zo_istore (lv' := [(5, .int x_4), (4, .int x_2), (0, .ref 83), (1, .int v1), (2, .int v2), (3, .int v3)]) hC dX8_chanceOf_22 (by decide) rfl ?_
  refine zo_iload hC dX8_chanceOf_24 0 rfl ?_
  refine zo_iload hC dX8_chanceOf_26 1 rfl ?_
  refine zo_icmp_ge (tgt := 36) hC dX8_chanceOf_28 (by decide) (fun c_5 => ?_) (fun c_5 => ?_)
  · refine zo_iload hC dX8_chanceOf_36 1 rfl ?_
    refine zo_sub [2, 3, 4] (lv' := [(0, .ref 83), (1, .int v1), (2, .int v2)]) rfl ?_
    exact Zf_X8_chanceOf_38 hC I L v1 v2 x_2
  · refine zo_iload hC dX8_chanceOf_31 0 rfl ?_
    refine zo_goto (tgt := 38) hC dX8_chanceOf_33 (by decide) ?_
    refine zo_sub [2, 3, 4] (lv' := [(0, .ref 83), (1, .int v1), (2, .int v2)]) rfl ?_
    exact Zf_X8_chanceOf_38 hC I L v1 v2 x_4

theorem T_X8_chanceOf (v1 : Int32) (v2 : Int32) (v3 : Int32) (I : e_I) (L : e_L) (p : Int32) (hp : f_X8_chanceOf v1 v2 v3 I = some p) : Mt yX8_chanceOf cX8_chanceOf 7 (some .int) 0 gN [.ref 83, .int v1, .int v2, .int v3] I L ((ph_i I L) p) := zo_enter hp (by decide) (Nat.le_of_ble_eq_true rfl) (fun X hC => Zf_X8_chanceOf hC v1 v2 v3 I L)
def f_X8_chance_51 (s0 : Int32) (I : e_I) : Option (Int32 × e_I) :=
  some (s0, I)
set_option maxRecDepth 100000 in
set_option maxHeartbeats 4000000 in
theorem Zf_X8_chance_51 {X : e_X} (hC : e_C X cX8_chance RX8 4 (some .int) 2 gN) (L : e_L) (s0 : Int32) (I : e_I) : Zo X (ph_iI L) (f_X8_chance_51 s0 I) 51 [] [.int s0] I L := by
  unfold f_X8_chance_51
  exact zo_iret hC rfl dX8_chance_51

def f_X8_chance_23 (v1 : Int32) (v2 : Int32) (v3 : Int32) (s0 : Int32) (I : e_I) : Option (Int32 × e_I) :=
  e_b1 (f_X8_in v3 0 999) (fun (r_1 : Int32) =>
  e_b1 (f_X8_unless_ s0 r_1) (fun (r_2 : Int32) =>
  e_b2 (f_X8_isRefused r_2 I) (fun (r_3 : Int32) (I_4 : e_I) =>
  if r_3 = 0 then (
    e_b1 (f_X8_chanceOf v1 v2 v3 I_4) (fun (r_6 : Int32) =>
    f_X8_chance_51 r_6 I_4))
  else (
    f_X8_chance_51 (-1) I_4))))
set_option maxRecDepth 100000 in
set_option maxHeartbeats 4000000 in
theorem Zf_X8_chance_23 {X : e_X} (hC : e_C X cX8_chance RX8 4 (some .int) 2 gN) (L : e_L) (v1 : Int32) (v2 : Int32) (v3 : Int32) (s0 : Int32) (I : e_I) : Zo X (ph_iI L) (f_X8_chance_23 v1 v2 v3 s0 I) 23 [(0, .ref 83), (1, .int v1), (2, .int v2), (3, .int v3)] [.int s0, .ref 83] I L := by
  unfold f_X8_chance_23
  refine zo_iload_n hC dX8_chance_23 rfl 3 rfl ?_
  refine zo_iconst (v := 0) hC (by decide) dX8_chance_24 ?_
  refine zo_sipush (v := 999) hC (by decide) dX8_chance_25 ?_
  refine zo_callS_i hC [.int v3, .int 0, .int 999] [.int s0, .ref 83] me_X8_in mlX8_83 sm_X8_in (fun p hp => T_X8_in v3 0 999 I L p hp) (by decide) rfl (Nat.le_of_ble_eq_true rfl) dX8_chance_28 rfl (fun r_1 => ?_)
  refine zo_callS_i hC [.int s0, .int r_1] [.ref 83] me_X8_unless_ mlX8_158 sm_X8_unless_ (fun p hp => T_X8_unless_ s0 r_1 I L p hp) (by decide) rfl (Nat.le_of_ble_eq_true rfl) dX8_chance_31 rfl (fun r_2 => ?_)
  refine zo_callV_iI hC (ci := 8) [.int r_2] [] me_X8_isRefused mlX8_162 im_X8_isRefused se_X8_isRefused rfl (by decide) at_83 (fun p hp => T_X8_isRefused r_2 I L p hp) (by decide) rfl (Nat.le_of_ble_eq_true rfl) dX8_chance_34 rfl (fun r_3 I_4 => ?_)
  refine zo_if_eq (tgt := 44) hC dX8_chance_37 (by decide) (fun c_5 => ?_) (fun c_5 => ?_)
  · refine zo_aload_n hC dX8_chance_44 rfl 0 rfl ?_
    refine zo_iload_n hC dX8_chance_45 rfl 1 rfl ?_
    refine zo_iload_n hC dX8_chance_46 rfl 2 rfl ?_
    refine zo_iload_n hC dX8_chance_47 rfl 3 rfl ?_
    refine zo_callV_i hC (ci := 8) [.int v1, .int v2, .int v3] [] me_X8_chanceOf mlX8_202 im_X8_chanceOf se_X8_chanceOf rfl (by decide) at_83 (fun p hp => T_X8_chanceOf v1 v2 v3 I_4 L p hp) (by decide) rfl (Nat.le_of_ble_eq_true rfl) dX8_chance_48 rfl (fun r_6 => ?_)
    refine zo_sub [] (lv' := []) rfl ?_
    exact Zf_X8_chance_51 hC L r_6 I_4
  · refine zo_iconst (v := (-1)) hC (by decide) dX8_chance_40 ?_
    refine zo_goto (tgt := 51) hC dX8_chance_41 (by decide) ?_
    refine zo_sub [] (lv' := []) rfl ?_
    exact Zf_X8_chance_51 hC L (-1) I_4

def f_X8_chance_22 (v1 : Int32) (v2 : Int32) (v3 : Int32) (I : e_I) : Option (Int32 × e_I) :=
  f_X8_chance_23 v1 v2 v3 0 I
set_option maxRecDepth 100000 in
set_option maxHeartbeats 4000000 in
theorem Zf_X8_chance_22 {X : e_X} (hC : e_C X cX8_chance RX8 4 (some .int) 2 gN) (L : e_L) (v1 : Int32) (v2 : Int32) (v3 : Int32) (I : e_I) : Zo X (ph_iI L) (f_X8_chance_22 v1 v2 v3 I) 22 [(0, .ref 83), (1, .int v1), (2, .int v2), (3, .int v3)] [.ref 83] I L := by
  unfold f_X8_chance_22
  refine zo_iconst (v := 0) hC (by decide) dX8_chance_22 ?_
  exact Zf_X8_chance_23 hC L v1 v2 v3 0 I

def f_X8_chance (v1 : Int32) (v2 : Int32) (v3 : Int32) (I : e_I) : Option (Int32 × e_I) :=
  e_b1 (f_X8_isBatter v1 I) (fun (r_1 : Int32) =>
  if r_1 = 0 then (
    f_X8_chance_22 v1 v2 v3 I)
  else (
    e_b1 (f_X8_in v2 0 5) (fun (r_3 : Int32) =>
    if r_3 = 0 then (
      f_X8_chance_22 v1 v2 v3 I)
    else (
      f_X8_chance_23 v1 v2 v3 1 I))))
set_option maxRecDepth 100000 in
set_option maxHeartbeats 4000000 in
theorem Zf_X8_chance {X : e_X} (hC : e_C X cX8_chance RX8 4 (some .int) 2 gN) (v1 : Int32) (v2 : Int32) (v3 : Int32) (I : e_I) (L : e_L) : Zo X (ph_iI L) (f_X8_chance v1 v2 v3 I) 0 [(0, .ref 83), (1, .int v1), (2, .int v2), (3, .int v3)] [] I L := by
  unfold f_X8_chance
  refine zo_aload_n hC dX8_chance_0 rfl 0 rfl ?_
  refine zo_aload_n hC dX8_chance_1 rfl 0 rfl ?_
  refine zo_iload_n hC dX8_chance_2 rfl 1 rfl ?_
  refine zo_callV_i hC (ci := 8) [.int v1] [.ref 83] me_X8_isBatter mlX8_192 im_X8_isBatter se_X8_isBatter rfl (by decide) at_83 (fun p hp => T_X8_isBatter v1 I L p hp) (by decide) rfl (Nat.le_of_ble_eq_true rfl) dX8_chance_3 rfl (fun r_1 => ?_)
  refine zo_if_eq (tgt := 22) hC dX8_chance_6 (by decide) (fun c_2 => ?_) (fun c_2 => ?_)
  · exact Zf_X8_chance_22 hC L v1 v2 v3 I
  · refine zo_iload_n hC dX8_chance_9 rfl 2 rfl ?_
    refine zo_iconst (v := 0) hC (by decide) dX8_chance_10 ?_
    refine zo_iconst (v := 5) hC (by decide) dX8_chance_11 ?_
    refine zo_callS_i hC [.int v2, .int 0, .int 5] [.ref 83] me_X8_in mlX8_83 sm_X8_in (fun p hp => T_X8_in v2 0 5 I L p hp) (by decide) rfl (Nat.le_of_ble_eq_true rfl) dX8_chance_12 rfl (fun r_3 => ?_)
    refine zo_if_eq (tgt := 22) hC dX8_chance_15 (by decide) (fun c_4 => ?_) (fun c_4 => ?_)
    · exact Zf_X8_chance_22 hC L v1 v2 v3 I
    · refine zo_iconst (v := 1) hC (by decide) dX8_chance_18 ?_
      refine zo_goto (tgt := 23) hC dX8_chance_19 (by decide) ?_
      exact Zf_X8_chance_23 hC L v1 v2 v3 1 I

theorem T_X8_chance (v1 : Int32) (v2 : Int32) (v3 : Int32) (I : e_I) (L : e_L) (p : Int32 × e_I) (hp : f_X8_chance v1 v2 v3 I = some p) : Mt yX8_chance cX8_chance 4 (some .int) 2 gN [.ref 83, .int v1, .int v2, .int v3] I L ((ph_iI L) p) := zo_enter hp (by decide) (Nat.le_of_ble_eq_true rfl) (fun X hC => Zf_X8_chance hC v1 v2 v3 I L)
