def f_X7_troubleOfEvent_17 (I : e_I) : Option (Int32) :=
  some 1
set_option maxRecDepth 100000 in
set_option maxHeartbeats 4000000 in
theorem Zf_X7_troubleOfEvent_17 {X : e_X} (hC : e_C X cX7_troubleOfEvent RX7 2 (some .int) 2 gN) (I : e_I) (L : e_L) : Zo X (ph_i I L) (f_X7_troubleOfEvent_17 I) 17 [] [] I L := by
  unfold f_X7_troubleOfEvent_17
  refine zo_iconst (v := 1) hC (by decide) dX7_troubleOfEvent_17 ?_
  exact zo_iret hC rfl dX7_troubleOfEvent_18

def f_X7_troubleOfEvent_45 (I : e_I) (s0 : Int32) : Option (Int32) :=
  some s0
set_option maxRecDepth 100000 in
set_option maxHeartbeats 4000000 in
theorem Zf_X7_troubleOfEvent_45 {X : e_X} (hC : e_C X cX7_troubleOfEvent RX7 2 (some .int) 2 gN) (I : e_I) (L : e_L) (s0 : Int32) : Zo X (ph_i I L) (f_X7_troubleOfEvent_45 I s0) 45 [] [.int s0] I L := by
  unfold f_X7_troubleOfEvent_45
  exact zo_iret hC rfl dX7_troubleOfEvent_45

def f_X7_troubleOfEvent (v1 : Int32) (I : e_I) : Option (Int32) :=
  e_b1 (f_X7_hasText I) (fun (r_1 : Int32) =>
  if r_1 = 0 then (
    f_X7_troubleOfEvent_17 I )
  else (
    e_b1 (f_X7_within v1 0 8) (fun (r_3 : Int32) =>
    if r_3 ≠ 0 then (
      e_b1 (f_X2_can v1 (I 23 2) I) (fun (r_5 : Int32) =>
      if r_5 = 0 then (
        f_X7_troubleOfEvent_45 I 5)
      else (
        f_X7_troubleOfEvent_45 I 0)))
    else (
      f_X7_troubleOfEvent_17 I ))))
set_option maxRecDepth 100000 in
set_option maxHeartbeats 4000000 in
theorem Zf_X7_troubleOfEvent {X : e_X} (hC : e_C X cX7_troubleOfEvent RX7 2 (some .int) 2 gN) (v1 : Int32) (I : e_I) (L : e_L) : Zo X (ph_i I L) (f_X7_troubleOfEvent v1 I) 0 [(0, .ref 0), (1, .int v1)] [] I L := by
  unfold f_X7_troubleOfEvent
  refine zo_aload_n hC dX7_troubleOfEvent_0 rfl 0 rfl ?_
  refine zo_callV_i hC (ci := 7) [] [] me_X7_hasText mlX7_110 im_X7_hasText se_X7_hasText rfl (by decide) at_0 (fun p hp => T_X7_hasText I L p hp) (by decide) rfl (Nat.le_of_ble_eq_true rfl) dX7_troubleOfEvent_1 rfl (fun r_1 => ?_)
  refine zo_if_eq (tgt := 17) hC dX7_troubleOfEvent_4 (by decide) (fun c_2 => ?_) (fun c_2 => ?_)
  · refine zo_sub [] (lv' := []) rfl ?_
    exact Zf_X7_troubleOfEvent_17 hC I L 
  · refine zo_iload_n hC dX7_troubleOfEvent_7 rfl 1 rfl ?_
    refine zo_iconst (v := 0) hC (by decide) dX7_troubleOfEvent_8 ?_
    refine zo_bipush (v := 8) hC (by decide) dX7_troubleOfEvent_9 ?_
    refine zo_callS_i hC [.int v1, .int 0, .int 8] [] me_X7_within mlX7_66 sm_X7_within (fun p hp => T_X7_within v1 0 8 I L p hp) (by decide) rfl (Nat.le_of_ble_eq_true rfl) dX7_troubleOfEvent_11 rfl (fun r_3 => ?_)
    refine zo_if_ne (tgt := 19) hC dX7_troubleOfEvent_14 (by decide) (fun c_4 => ?_) (fun c_4 => ?_)
    · refine zo_aload_n hC dX7_troubleOfEvent_19 rfl 0 rfl ?_
      refine zo_getR hC (r := 11) fk7_40 (by decide) gr_0_5 at_0 dX7_troubleOfEvent_20 ?_
      refine zo_getR hC (r := 12) fk7_181 (by decide) gr_11_0 at_11 dX7_troubleOfEvent_23 ?_
      refine zo_iload_n hC dX7_troubleOfEvent_26 rfl 1 rfl ?_
      refine zo_aload_n hC dX7_troubleOfEvent_27 rfl 0 rfl ?_
      refine zo_getR hC (r := 23) fk7_23 (by decide) gr_0_2 at_0 dX7_troubleOfEvent_28 ?_
      refine zo_getI hC fk7_117 at_23 dX7_troubleOfEvent_31 ?_
      refine zo_callV_i hC (ci := 2) [.int v1, .int (I 23 2)] [] me_X2_can mlX7_197 im_X2_can se_X2_can rfl (by decide) at_12 (fun p hp => T_X2_can v1 (I 23 2) I L p hp) (by decide) rfl (Nat.le_of_ble_eq_true rfl) dX7_troubleOfEvent_34 rfl (fun r_5 => ?_)
      refine zo_if_eq (tgt := 44) hC dX7_troubleOfEvent_37 (by decide) (fun c_6 => ?_) (fun c_6 => ?_)
      · refine zo_iconst (v := 5) hC (by decide) dX7_troubleOfEvent_44 ?_
        refine zo_sub [] (lv' := []) rfl ?_
        exact Zf_X7_troubleOfEvent_45 hC I L 5
      · refine zo_iconst (v := 0) hC (by decide) dX7_troubleOfEvent_40 ?_
        refine zo_goto (tgt := 45) hC dX7_troubleOfEvent_41 (by decide) ?_
        refine zo_sub [] (lv' := []) rfl ?_
        exact Zf_X7_troubleOfEvent_45 hC I L 0
    · refine zo_sub [] (lv' := []) rfl ?_
      exact Zf_X7_troubleOfEvent_17 hC I L 

theorem T_X7_troubleOfEvent (v1 : Int32) (I : e_I) (L : e_L) (p : Int32) (hp : f_X7_troubleOfEvent v1 I = some p) : Mt yX7_troubleOfEvent cX7_troubleOfEvent 2 (some .int) 2 gN [.ref 0, .int v1] I L ((ph_i I L) p) := zo_enter hp (by decide) (Nat.le_of_ble_eq_true rfl) (fun X hC => Zf_X7_troubleOfEvent hC v1 I L)
def f_X4_keep_41 (g1 : Nat) (s0 : Int32) (I : e_I) : Option (e_I) :=
  e_let (e_ui I 9 1 s0) (fun (I_1 : e_I) =>
  e_let (e_ui I_1 9 2 (e_min ((I_1 9 2) + 1) 10)) (fun (I_2 : e_I) =>
  some I_2))
set_option maxRecDepth 100000 in
set_option maxHeartbeats 4000000 in
theorem Zf_X4_keep_41 {X : e_X} (hC : e_C X cX4_keep RX4 3 none 1 gN) (g1 : Nat) (hg1 : e_isG g1) (L : e_L) (s0 : Int32) (I : e_I) : Zo X (ph_vI L) (f_X4_keep_41 g1 s0 I) 41 [(0, .ref 9)] [.int s0, .ref 9] I L := by
  unfold f_X4_keep_41
  refine zo_putI hC fk4_22 ff4_1 at_9 dX4_keep_41 ?_
  refine zo_topI (fun I_1 => ?_)
  refine zo_aload_n hC dX4_keep_44 rfl 0 rfl ?_
  refine zo_aload_n hC dX4_keep_45 rfl 0 rfl ?_
  refine zo_getI hC fk4_18 at_9 dX4_keep_46 ?_
  refine zo_iconst (v := 1) hC (by decide) dX4_keep_49 ?_
  refine zo_iadd hC dX4_keep_50 ?_
  refine zo_bipush (v := 10) hC (by decide) dX4_keep_51 ?_
  refine zo_mmin_ hC mlX4_29 st_mmin in_Math cd_mmin (Nat.le_of_ble_eq_true rfl) dX4_keep_53 ?_
  refine zo_putI hC fk4_18 ff4_2 at_9 dX4_keep_56 ?_
  refine zo_topI (fun I_2 => ?_)
  exact zo_vret hC rfl dX4_keep_59

def f_X4_keep_19 (g1 : Nat) (I : e_I) : Option (e_I) :=
  if ((I 9 1) + 1) ≥ 10 then (
    f_X4_keep_41 g1 0 I)
  else (
    f_X4_keep_41 g1 ((I 9 1) + 1) I)
set_option maxRecDepth 100000 in
set_option maxHeartbeats 4000000 in
theorem Zf_X4_keep_19 {X : e_X} (hC : e_C X cX4_keep RX4 3 none 1 gN) (g1 : Nat) (hg1 : e_isG g1) (L : e_L) (I : e_I) : Zo X (ph_vI L) (f_X4_keep_19 g1 I) 19 [(0, .ref 9)] [] I L := by
  unfold f_X4_keep_19
  refine zo_aload_n hC dX4_keep_19 rfl 0 rfl ?_
  refine zo_aload_n hC dX4_keep_20 rfl 0 rfl ?_
  refine zo_getI hC fk4_22 at_9 dX4_keep_21 ?_
  refine zo_iconst (v := 1) hC (by decide) dX4_keep_24 ?_
  refine zo_iadd hC dX4_keep_25 ?_
  refine zo_bipush (v := 10) hC (by decide) dX4_keep_26 ?_
  refine zo_icmp_ge (tgt := 40) hC dX4_keep_28 (by decide) (fun c_1 => ?_) (fun c_1 => ?_)
  · refine zo_iconst (v := 0) hC (by decide) dX4_keep_40 ?_
    exact Zf_X4_keep_41 hC g1 hg1 L 0 I
  · refine zo_aload_n hC dX4_keep_31 rfl 0 rfl ?_
    refine zo_getI hC fk4_22 at_9 dX4_keep_32 ?_
    refine zo_iconst (v := 1) hC (by decide) dX4_keep_35 ?_
    refine zo_iadd hC dX4_keep_36 ?_
    refine zo_goto (tgt := 41) hC dX4_keep_37 (by decide) ?_
    exact Zf_X4_keep_41 hC g1 hg1 L ((I 9 1) + 1) I

def f_X4_keep (g1 : Nat) (I : e_I) : Option (e_I) :=
  e_as (e_ix (I 9 1) 10 = true) (
  e_b1 (f_X0_copyFrom (eK (I 9 1)) g1 I) (fun (I_2 : e_I) =>
  f_X4_keep_19 g1 I_2))
set_option maxRecDepth 100000 in
set_option maxHeartbeats 4000000 in
theorem Zf_X4_keep {X : e_X} (hC : e_C X cX4_keep RX4 3 none 1 gN) (g1 : Nat) (hg1 : e_isG g1) (I : e_I) (L : e_L) : Zo X (ph_vI L) (f_X4_keep g1 I) 0 [(0, .ref 9), (1, .ref g1)] [] I L := by
  unfold f_X4_keep
  refine zo_aload_n hC dX4_keep_0 rfl 0 rfl ?_
  refine zo_getR hC (r := 10) fk4_11 (by decide) gr_9_0 at_9 dX4_keep_1 ?_
  refine zo_aload_n hC dX4_keep_4 rfl 0 rfl ?_
  refine zo_getI hC fk4_22 at_9 dX4_keep_5 ?_
  refine zo_as (fun h_1 => ?_)
  refine zo_aald hC ar_10 (e_ix_vp h_1) (gR_eK (e_ix_vp h_1)) dX4_keep_8 ?_
  refine zo_astore_n (lv' := [(2, .ref (eK (I 9 1))), (0, .ref 9), (1, .ref g1)]) hC dX4_keep_9 rfl (by decide) rfl ?_
  refine zo_aload_n hC dX4_keep_10 rfl 0 rfl ?_
  refine zo_ifnull hC dX4_keep_11 ?_
  refine zo_aload_n hC dX4_keep_14 rfl 0 rfl ?_
  refine zo_aload_n hC dX4_keep_15 rfl 2 rfl ?_
  refine zo_callV_vI hC (ci := 0) [.ref g1] [] me_X0_copyFrom mlX4_25 im_X0_copyFrom se_X0_copyFrom rfl (by decide) (atG (isG_eK _)) (fun p hp => T_X0_copyFrom (eK (I 9 1)) (isG_eK _) g1 hg1 I L p hp) (by decide) rfl (Nat.le_of_ble_eq_true rfl) dX4_keep_16 rfl (fun I_2 => ?_)
  refine zo_sub [1] (lv' := [(0, .ref 9)]) rfl ?_
  exact Zf_X4_keep_19 hC g1 hg1 L I_2

theorem T_X4_keep (g1 : Nat) (hg1 : e_isG g1) (I : e_I) (L : e_L) (p : e_I) (hp : f_X4_keep g1 I = some p) : Mt yX4_keep cX4_keep 3 none 1 gN [.ref 9, .ref g1] I L ((ph_vI L) p) := zo_enter hp (by decide) (Nat.le_of_ble_eq_true rfl) (fun X hC => Zf_X4_keep hC g1 hg1 I L)
def f_X7_event (v1 : Int32) (I : e_I) : Option (Int32 × e_I) :=
  e_b1 (f_X7_troubleOfEvent v1 I) (fun (r_1 : Int32) =>
  e_b2 (f_X7_refused r_1 I) (fun (r_2 : Int32) (I_3 : e_I) =>
  if r_2 = 0 then (
    e_b1 (f_X4_keep 23 I_3) (fun (I_5 : e_I) =>
    e_b2 (f_X0_happen 23 v1 I_5) (fun (r_6 : Int32) (I_7 : e_I) =>
    some (r_6, I_7))))
  else (
    some ((-1), I_3))))
set_option maxRecDepth 100000 in
set_option maxHeartbeats 4000000 in
theorem Zf_X7_event {X : e_X} (hC : e_C X cX7_event RX7 2 (some .int) 4 gN) (v1 : Int32) (I : e_I) (L : e_L) : Zo X (ph_iI L) (f_X7_event v1 I) 0 [(0, .ref 0), (1, .int v1)] [] I L := by
  unfold f_X7_event
  refine zo_aload_n hC dX7_event_0 rfl 0 rfl ?_
  refine zo_aload_n hC dX7_event_1 rfl 0 rfl ?_
  refine zo_iload_n hC dX7_event_2 rfl 1 rfl ?_
  refine zo_callV_i hC (ci := 7) [.int v1] [.ref 0] me_X7_troubleOfEvent mlX7_312 im_X7_troubleOfEvent se_X7_troubleOfEvent rfl (by decide) at_0 (fun p hp => T_X7_troubleOfEvent v1 I L p hp) (by decide) rfl (Nat.le_of_ble_eq_true rfl) dX7_event_3 rfl (fun r_1 => ?_)
  refine zo_callV_iI hC (ci := 7) [.int r_1] [] me_X7_refused mlX7_70 im_X7_refused se_X7_refused rfl (by decide) at_0 (fun p hp => T_X7_refused r_1 I L p hp) (by decide) rfl (Nat.le_of_ble_eq_true rfl) dX7_event_6 rfl (fun r_2 I_3 => ?_)
  refine zo_if_eq (tgt := 14) hC dX7_event_9 (by decide) (fun c_4 => ?_) (fun c_4 => ?_)
  · refine zo_aload_n hC dX7_event_14 rfl 0 rfl ?_
    refine zo_getR hC (r := 9) fk7_33 (by decide) gr_0_4 at_0 dX7_event_15 ?_
    refine zo_aload_n hC dX7_event_18 rfl 0 rfl ?_
    refine zo_getR hC (r := 23) fk7_23 (by decide) gr_0_2 at_0 dX7_event_19 ?_
    refine zo_callV_vI hC (ci := 4) [.ref 23] [] me_X4_keep mlX7_315 im_X4_keep se_X4_keep rfl (by decide) at_9 (fun p hp => T_X4_keep 23 isG_23 I_3 L p hp) (by decide) rfl (Nat.le_of_ble_eq_true rfl) dX7_event_22 rfl (fun I_5 => ?_)
    refine zo_aload_n hC dX7_event_25 rfl 0 rfl ?_
    refine zo_getR hC (r := 23) fk7_23 (by decide) gr_0_2 at_0 dX7_event_26 ?_
    refine zo_aload_n hC dX7_event_29 rfl 0 rfl ?_
    refine zo_getR hC (r := 11) fk7_40 (by decide) gr_0_5 at_0 dX7_event_30 ?_
    refine zo_getR hC (r := 12) fk7_181 (by decide) gr_11_0 at_11 dX7_event_33 ?_
    refine zo_iload_n hC dX7_event_36 rfl 1 rfl ?_
    refine zo_callV_iI hC (ci := 0) [.ref 12, .int v1] [] me_X0_happen mlX7_318 im_X0_happen se_X0_happen rfl (by decide) at_23 (fun p hp => T_X0_happen 23 isG_23 v1 I_5 L p hp) (by decide) rfl (Nat.le_of_ble_eq_true rfl) dX7_event_37 rfl (fun r_6 I_7 => ?_)
    exact zo_iret hC rfl dX7_event_40
  · refine zo_iconst (v := (-1)) hC (by decide) dX7_event_12 ?_
    exact zo_iret hC rfl dX7_event_13

theorem T_X7_event (v1 : Int32) (I : e_I) (L : e_L) (p : Int32 × e_I) (hp : f_X7_event v1 I = some p) : Mt yX7_event cX7_event 2 (some .int) 4 gN [.ref 0, .int v1] I L ((ph_iI L) p) := zo_enter hp (by decide) (Nat.le_of_ble_eq_true rfl) (fun X hC => Zf_X7_event hC v1 I L)
def f_X7_play_47 (v2 : Int32) (v3 : Int32) (k80 : Int32 → e_I → e_L → Option (Int32 × e_I × e_L)) : Nat → Int32 → Int32 → e_I → e_L → Option (Int32 × e_I × e_L)
  | 0, _, _, _, _ => none
  | n + 1, v4, v5, I, L =>
    if v5 ≥ v2 then (
      k80 v4 I L)
    else (
      e_b3 (f_X5_playOne 23 v3 I L) (fun (r_2 : Int32) (I_3 : e_I) (L_4 : e_L) =>
      e_let (v4 + r_2) (fun (x_5 : Int32) =>
      e_let (v5 + 1) (fun (x_6 : Int32) =>
      f_X7_play_47 v2 v3 k80 n x_5 x_6 I_3 L_4))))
set_option maxRecDepth 100000 in
set_option maxHeartbeats 4000000 in
theorem Zf_X7_play_47 {X : e_X} (hC : e_C X cX7_play RX7 6 (some .int) 7 gN) (v2 : Int32) (v3 : Int32) (k80 : Int32 → e_I → e_L → Option (Int32 × e_I × e_L)) (hk80 : ∀ (v4 : Int32) (I : e_I) (L : e_L), Zo X (ph_iIL) (k80 v4 I L) 80 [(4, .int v4)] [] I L) : ∀ (n : Nat) (v4 : Int32) (v5 : Int32) (I : e_I) (L : e_L), Zo X (ph_iIL) (f_X7_play_47 v2 v3 k80 n v4 v5 I L) 47 [(0, .ref 0), (2, .int v2), (3, .int v3), (4, .int v4), (5, .int v5)] [] I L := by
  intro n
  induction n with
  | zero => intro v4 v5 I L p hp; cases hp
  | succ n ih =>
    intro v4 v5 I L
    unfold f_X7_play_47
    refine zo_iload hC dX7_play_47 4 rfl ?_
    refine zo_iload_n hC dX7_play_49 rfl 1 rfl ?_
    refine zo_icmp_ge (tgt := 80) hC dX7_play_50 (by decide) (fun c_1 => ?_) (fun c_1 => ?_)
    · refine zo_sub [3] (lv' := [(4, .int v4)]) rfl ?_
      exact hk80 v4 I L
    · refine zo_iload hC dX7_play_53 3 rfl ?_
      refine zo_aload_n hC dX7_play_55 rfl 0 rfl ?_
      refine zo_getR hC (r := 22) fk7_54 (by decide) gr_0_7 at_0 dX7_play_56 ?_
      refine zo_aload_n hC dX7_play_59 rfl 0 rfl ?_
      refine zo_getR hC (r := 11) fk7_40 (by decide) gr_0_5 at_0 dX7_play_60 ?_
      refine zo_aload_n hC dX7_play_63 rfl 0 rfl ?_
      refine zo_getR hC (r := 23) fk7_23 (by decide) gr_0_2 at_0 dX7_play_64 ?_
      refine zo_iload_n hC dX7_play_67 rfl 2 rfl ?_
      refine zo_callV_iIL hC (ci := 5) [.ref 11, .ref 23, .int v3] [.int v4] me_X5_playOne mlX7_302 im_X5_playOne se_X5_playOne rfl (by decide) at_22 (fun p hp => T_X5_playOne 23 isG_23 v3 I L p hp) (by decide) rfl (Nat.le_of_ble_eq_true rfl) dX7_play_68 rfl (fun r_2 I_3 L_4 => ?_)
      refine zo_iadd hC dX7_play_71 ?_
      refine zo_topi (fun x_5 => ?_)
      refine zo_istore (lv' := [(4, .int x_5), (0, .ref 0), (2, .int v2), (3, .int v3), (5, .int v5)]) hC dX7_play_72 (by decide) rfl ?_
      refine zo_iinc hC (x := v5) (fun x_6 => [(5, .int x_6), (4, .int x_5), (0, .ref 0), (2, .int v2), (3, .int v3)]) dX7_play_74 4 rfl (by rfl) (by decide) (fun _ => rfl) (fun x_6 => ?_)
      refine zo_goto (tgt := 47) hC dX7_play_77 (by decide) ?_
      refine zo_sub [2, 3, 4, 1, 0] (lv' := [(0, .ref 0), (2, .int v2), (3, .int v3), (4, .int x_5), (5, .int x_6)]) rfl ?_
      exact ih x_5 x_6 I_3 L_4

def f_X7_play (v1 : Int32) (v2 : Int32) (v3 : Int32) (I : e_I) (L : e_L) : Option (Int32 × e_I × e_L) :=
  e_b1 (f_X7_within v2 1 20) (fun (r_1 : Int32) =>
  e_b1 (f_X7_troubleOfPlay 1 v1 r_1 I) (fun (r_2 : Int32) =>
  e_b2 (f_X7_refused r_2 I) (fun (r_3 : Int32) (I_4 : e_I) =>
  if r_3 = 0 then (
    e_b1 (f_X4_keep 23 I_4) (fun (I_6 : e_I) =>
    e_b1 (f_X5_seedWith v1 L) (fun (L_7 : e_L) =>
    f_X7_play_47 v2 v3 (fun (v4_8 : Int32) (I_9 : e_I) (L_10 : e_L) =>
      some (v4_8, I_9, L_10)) e_FU 0 0 I_6 L_7)))
  else (
    some ((-1), I_4, L)))))
set_option maxRecDepth 100000 in
set_option maxHeartbeats 4000000 in
theorem Zf_X7_play {X : e_X} (hC : e_C X cX7_play RX7 6 (some .int) 7 gN) (v1 : Int32) (v2 : Int32) (v3 : Int32) (I : e_I) (L : e_L) : Zo X (ph_iIL) (f_X7_play v1 v2 v3 I L) 0 [(0, .ref 0), (1, .int v1), (2, .int v2), (3, .int v3)] [] I L := by
  unfold f_X7_play
  refine zo_aload_n hC dX7_play_0 rfl 0 rfl ?_
  refine zo_aload_n hC dX7_play_1 rfl 0 rfl ?_
  refine zo_iconst (v := 1) hC (by decide) dX7_play_2 ?_
  refine zo_iload_n hC dX7_play_3 rfl 1 rfl ?_
  refine zo_iload_n hC dX7_play_4 rfl 2 rfl ?_
  refine zo_iconst (v := 1) hC (by decide) dX7_play_5 ?_
  refine zo_bipush (v := 20) hC (by decide) dX7_play_6 ?_
  refine zo_callS_i hC [.int v2, .int 1, .int 20] [.int v1, .int 1, .ref 0, .ref 0] me_X7_within mlX7_66 sm_X7_within (fun p hp => T_X7_within v2 1 20 I L p hp) (by decide) rfl (Nat.le_of_ble_eq_true rfl) dX7_play_8 rfl (fun r_1 => ?_)
  refine zo_callV_i hC (ci := 7) [.int 1, .int v1, .int r_1] [.ref 0] me_X7_troubleOfPlay mlX7_288 im_X7_troubleOfPlay se_X7_troubleOfPlay rfl (by decide) at_0 (fun p hp => T_X7_troubleOfPlay 1 v1 r_1 I L p hp) (by decide) rfl (Nat.le_of_ble_eq_true rfl) dX7_play_11 rfl (fun r_2 => ?_)
  refine zo_callV_iI hC (ci := 7) [.int r_2] [] me_X7_refused mlX7_70 im_X7_refused se_X7_refused rfl (by decide) at_0 (fun p hp => T_X7_refused r_2 I L p hp) (by decide) rfl (Nat.le_of_ble_eq_true rfl) dX7_play_14 rfl (fun r_3 I_4 => ?_)
  refine zo_if_eq (tgt := 22) hC dX7_play_17 (by decide) (fun c_5 => ?_) (fun c_5 => ?_)
  · refine zo_aload_n hC dX7_play_22 rfl 0 rfl ?_
    refine zo_getR hC (r := 9) fk7_33 (by decide) gr_0_4 at_0 dX7_play_23 ?_
    refine zo_aload_n hC dX7_play_26 rfl 0 rfl ?_
    refine zo_getR hC (r := 23) fk7_23 (by decide) gr_0_2 at_0 dX7_play_27 ?_
    refine zo_callV_vI hC (ci := 4) [.ref 23] [] me_X4_keep mlX7_315 im_X4_keep se_X4_keep rfl (by decide) at_9 (fun p hp => T_X4_keep 23 isG_23 I_4 L p hp) (by decide) rfl (Nat.le_of_ble_eq_true rfl) dX7_play_30 rfl (fun I_6 => ?_)
    refine zo_aload_n hC dX7_play_33 rfl 0 rfl ?_
    refine zo_getR hC (r := 22) fk7_54 (by decide) gr_0_7 at_0 dX7_play_34 ?_
    refine zo_iload_n hC dX7_play_37 rfl 1 rfl ?_
    refine zo_callV_vL hC (ci := 5) [.int v1] [] me_X5_seedWith mlX7_299 im_X5_seedWith se_X5_seedWith rfl (by decide) at_22 (fun p hp => T_X5_seedWith v1 I_6 L p hp) (by decide) rfl (Nat.le_of_ble_eq_true rfl) dX7_play_38 rfl (fun L_7 => ?_)
    refine zo_iconst (v := 0) hC (by decide) dX7_play_41 ?_
    refine zo_istore (lv' := [(4, .int 0), (0, .ref 0), (1, .int v1), (2, .int v2), (3, .int v3)]) hC dX7_play_42 (by decide) rfl ?_
    refine zo_iconst (v := 0) hC (by decide) dX7_play_44 ?_
    refine zo_istore (lv' := [(5, .int 0), (4, .int 0), (0, .ref 0), (1, .int v1), (2, .int v2), (3, .int v3)]) hC dX7_play_45 (by decide) rfl ?_
    refine zo_sub [2, 4, 5, 1, 0] (lv' := [(0, .ref 0), (2, .int v2), (3, .int v3), (4, .int 0), (5, .int 0)]) rfl ?_
    refine Zf_X7_play_47 hC v2 v3 _ (fun v4_8 I_9 L_10 => ?_) e_FU 0 0 I_6 L_7
    · refine zo_iload hC dX7_play_80 0 rfl ?_
      exact zo_iret hC rfl dX7_play_82
  · refine zo_iconst (v := (-1)) hC (by decide) dX7_play_20 ?_
    exact zo_iret hC rfl dX7_play_21

theorem T_X7_play (v1 : Int32) (v2 : Int32) (v3 : Int32) (I : e_I) (L : e_L) (p : Int32 × e_I × e_L) (hp : f_X7_play v1 v2 v3 I L = some p) : Mt yX7_play cX7_play 6 (some .int) 7 gN [.ref 0, .int v1, .int v2, .int v3] I L ((ph_iIL) p) := zo_enter hp (by decide) (Nat.le_of_ble_eq_true rfl) (fun X hC => Zf_X7_play hC v1 v2 v3 I L)
def f_X7_relieve_13 (s0 : Int32) (I : e_I) : Option (Int32 × e_I) :=
  e_b2 (f_X7_refused s0 I) (fun (r_1 : Int32) (I_2 : e_I) =>
  if r_1 = 0 then (
    e_b1 (f_X4_keep 23 I_2) (fun (I_4 : e_I) =>
    e_let (I_4 23 5) (fun (x_5 : Int32) =>
    e_let (e_ui I_4 23 5 0) (fun (I_6 : e_I) =>
    some (x_5, I_6)))))
  else (
    some ((-1), I_2)))
set_option maxRecDepth 100000 in
set_option maxHeartbeats 4000000 in
theorem Zf_X7_relieve_13 {X : e_X} (hC : e_C X cX7_relieve RX7 2 (some .int) 2 gN) (L : e_L) (s0 : Int32) (I : e_I) : Zo X (ph_iI L) (f_X7_relieve_13 s0 I) 13 [(0, .ref 0)] [.int s0, .ref 0] I L := by
  unfold f_X7_relieve_13
  refine zo_callV_iI hC (ci := 7) [.int s0] [] me_X7_refused mlX7_70 im_X7_refused se_X7_refused rfl (by decide) at_0 (fun p hp => T_X7_refused s0 I L p hp) (by decide) rfl (Nat.le_of_ble_eq_true rfl) dX7_relieve_13 rfl (fun r_1 I_2 => ?_)
  refine zo_if_eq (tgt := 21) hC dX7_relieve_16 (by decide) (fun c_3 => ?_) (fun c_3 => ?_)
  · refine zo_aload_n hC dX7_relieve_21 rfl 0 rfl ?_
    refine zo_getR hC (r := 9) fk7_33 (by decide) gr_0_4 at_0 dX7_relieve_22 ?_
    refine zo_aload_n hC dX7_relieve_25 rfl 0 rfl ?_
    refine zo_getR hC (r := 23) fk7_23 (by decide) gr_0_2 at_0 dX7_relieve_26 ?_
    refine zo_callV_vI hC (ci := 4) [.ref 23] [] me_X4_keep mlX7_315 im_X4_keep se_X4_keep rfl (by decide) at_9 (fun p hp => T_X4_keep 23 isG_23 I_2 L p hp) (by decide) rfl (Nat.le_of_ble_eq_true rfl) dX7_relieve_29 rfl (fun I_4 => ?_)
    refine zo_aload_n hC dX7_relieve_32 rfl 0 rfl ?_
    refine zo_getR hC (r := 23) fk7_23 (by decide) gr_0_2 at_0 dX7_relieve_33 ?_
    refine zo_getI hC fk7_132 at_23 dX7_relieve_36 ?_
    refine zo_topi (fun x_5 => ?_)
    refine zo_istore_n (lv' := [(1, .int x_5), (0, .ref 0)]) hC dX7_relieve_39 rfl (by decide) rfl ?_
    refine zo_aload_n hC dX7_relieve_40 rfl 1 rfl ?_
    refine zo_getR hC (r := 23) fk7_23 (by decide) gr_0_2 at_0 dX7_relieve_41 ?_
    refine zo_iconst (v := 0) hC (by decide) dX7_relieve_44 ?_
    refine zo_putI hC fk7_132 ff0_5 at_23 dX7_relieve_45 ?_
    refine zo_topI (fun I_6 => ?_)
    refine zo_iload_n hC dX7_relieve_48 rfl 0 rfl ?_
    exact zo_iret hC rfl dX7_relieve_49
  · refine zo_iconst (v := (-1)) hC (by decide) dX7_relieve_19 ?_
    exact zo_iret hC rfl dX7_relieve_20

def f_X7_relieve (I : e_I) : Option (Int32 × e_I) :=
  e_b1 (f_X7_hasText I) (fun (r_1 : Int32) =>
  if r_1 = 0 then (
    f_X7_relieve_13 1 I)
  else (
    f_X7_relieve_13 0 I))
set_option maxRecDepth 100000 in
set_option maxHeartbeats 4000000 in
theorem Zf_X7_relieve {X : e_X} (hC : e_C X cX7_relieve RX7 2 (some .int) 2 gN) (I : e_I) (L : e_L) : Zo X (ph_iI L) (f_X7_relieve I) 0 [(0, .ref 0)] [] I L := by
  unfold f_X7_relieve
  refine zo_aload_n hC dX7_relieve_0 rfl 0 rfl ?_
  refine zo_aload_n hC dX7_relieve_1 rfl 0 rfl ?_
  refine zo_callV_i hC (ci := 7) [] [.ref 0] me_X7_hasText mlX7_110 im_X7_hasText se_X7_hasText rfl (by decide) at_0 (fun p hp => T_X7_hasText I L p hp) (by decide) rfl (Nat.le_of_ble_eq_true rfl) dX7_relieve_2 rfl (fun r_1 => ?_)
  refine zo_if_eq (tgt := 12) hC dX7_relieve_5 (by decide) (fun c_2 => ?_) (fun c_2 => ?_)
  · refine zo_iconst (v := 1) hC (by decide) dX7_relieve_12 ?_
    exact Zf_X7_relieve_13 hC L 1 I
  · refine zo_iconst (v := 0) hC (by decide) dX7_relieve_8 ?_
    refine zo_goto (tgt := 13) hC dX7_relieve_9 (by decide) ?_
    exact Zf_X7_relieve_13 hC L 0 I

theorem T_X7_relieve (I : e_I) (L : e_L) (p : Int32 × e_I) (hp : f_X7_relieve I = some p) : Mt yX7_relieve cX7_relieve 2 (some .int) 2 gN [.ref 0] I L ((ph_iI L) p) := zo_enter hp (by decide) (Nat.le_of_ble_eq_true rfl) (fun X hC => Zf_X7_relieve hC I L)
def f_X7_begin_13 (s0 : Int32) (I : e_I) : Option (Int32 × e_I) :=
  e_b2 (f_X7_refused s0 I) (fun (r_1 : Int32) (I_2 : e_I) =>
  if r_1 = 0 then (
    e_b1 (f_X4_keep 23 I_2) (fun (I_4 : e_I) =>
    e_let (I_4 23 3) (fun (x_5 : Int32) =>
    e_b1 (f_X0_beginAnew 23 I_4) (fun (I_6 : e_I) =>
    some (x_5, I_6)))))
  else (
    some ((-1), I_2)))
set_option maxRecDepth 100000 in
set_option maxHeartbeats 4000000 in
theorem Zf_X7_begin_13 {X : e_X} (hC : e_C X cX7_begin RX7 2 (some .int) 2 gN) (L : e_L) (s0 : Int32) (I : e_I) : Zo X (ph_iI L) (f_X7_begin_13 s0 I) 13 [(0, .ref 0)] [.int s0, .ref 0] I L := by
  unfold f_X7_begin_13
  refine zo_callV_iI hC (ci := 7) [.int s0] [] me_X7_refused mlX7_70 im_X7_refused se_X7_refused rfl (by decide) at_0 (fun p hp => T_X7_refused s0 I L p hp) (by decide) rfl (Nat.le_of_ble_eq_true rfl) dX7_begin_13 rfl (fun r_1 I_2 => ?_)
  refine zo_if_eq (tgt := 21) hC dX7_begin_16 (by decide) (fun c_3 => ?_) (fun c_3 => ?_)
  · refine zo_aload_n hC dX7_begin_21 rfl 0 rfl ?_
    refine zo_getR hC (r := 9) fk7_33 (by decide) gr_0_4 at_0 dX7_begin_22 ?_
    refine zo_aload_n hC dX7_begin_25 rfl 0 rfl ?_
    refine zo_getR hC (r := 23) fk7_23 (by decide) gr_0_2 at_0 dX7_begin_26 ?_
    refine zo_callV_vI hC (ci := 4) [.ref 23] [] me_X4_keep mlX7_315 im_X4_keep se_X4_keep rfl (by decide) at_9 (fun p hp => T_X4_keep 23 isG_23 I_2 L p hp) (by decide) rfl (Nat.le_of_ble_eq_true rfl) dX7_begin_29 rfl (fun I_4 => ?_)
    refine zo_aload_n hC dX7_begin_32 rfl 0 rfl ?_
    refine zo_getR hC (r := 23) fk7_23 (by decide) gr_0_2 at_0 dX7_begin_33 ?_
    refine zo_getI hC fk7_126 at_23 dX7_begin_36 ?_
    refine zo_topi (fun x_5 => ?_)
    refine zo_istore_n (lv' := [(1, .int x_5), (0, .ref 0)]) hC dX7_begin_39 rfl (by decide) rfl ?_
    refine zo_aload_n hC dX7_begin_40 rfl 1 rfl ?_
    refine zo_getR hC (r := 23) fk7_23 (by decide) gr_0_2 at_0 dX7_begin_41 ?_
    refine zo_callV_vI hC (ci := 0) [] [] me_X0_beginAnew mlX7_296 im_X0_beginAnew se_X0_beginAnew rfl (by decide) at_23 (fun p hp => T_X0_beginAnew 23 isG_23 I_4 L p hp) (by decide) rfl (Nat.le_of_ble_eq_true rfl) dX7_begin_44 rfl (fun I_6 => ?_)
    refine zo_iload_n hC dX7_begin_47 rfl 0 rfl ?_
    exact zo_iret hC rfl dX7_begin_48
  · refine zo_iconst (v := (-1)) hC (by decide) dX7_begin_19 ?_
    exact zo_iret hC rfl dX7_begin_20

def f_X7_begin (I : e_I) : Option (Int32 × e_I) :=
  e_b1 (f_X7_hasText I) (fun (r_1 : Int32) =>
  if r_1 = 0 then (
    f_X7_begin_13 1 I)
  else (
    f_X7_begin_13 0 I))
set_option maxRecDepth 100000 in
set_option maxHeartbeats 4000000 in
theorem Zf_X7_begin {X : e_X} (hC : e_C X cX7_begin RX7 2 (some .int) 2 gN) (I : e_I) (L : e_L) : Zo X (ph_iI L) (f_X7_begin I) 0 [(0, .ref 0)] [] I L := by
  unfold f_X7_begin
  refine zo_aload_n hC dX7_begin_0 rfl 0 rfl ?_
  refine zo_aload_n hC dX7_begin_1 rfl 0 rfl ?_
  refine zo_callV_i hC (ci := 7) [] [.ref 0] me_X7_hasText mlX7_110 im_X7_hasText se_X7_hasText rfl (by decide) at_0 (fun p hp => T_X7_hasText I L p hp) (by decide) rfl (Nat.le_of_ble_eq_true rfl) dX7_begin_2 rfl (fun r_1 => ?_)
  refine zo_if_eq (tgt := 12) hC dX7_begin_5 (by decide) (fun c_2 => ?_) (fun c_2 => ?_)
  · refine zo_iconst (v := 1) hC (by decide) dX7_begin_12 ?_
    exact Zf_X7_begin_13 hC L 1 I
  · refine zo_iconst (v := 0) hC (by decide) dX7_begin_8 ?_
    refine zo_goto (tgt := 13) hC dX7_begin_9 (by decide) ?_
    exact Zf_X7_begin_13 hC L 0 I

theorem T_X7_begin (I : e_I) (L : e_L) (p : Int32 × e_I) (hp : f_X7_begin I = some p) : Mt yX7_begin cX7_begin 2 (some .int) 2 gN [.ref 0] I L ((ph_iI L) p) := zo_enter hp (by decide) (Nat.le_of_ble_eq_true rfl) (fun X hC => Zf_X7_begin hC I L)
def f_X7_swap_37 (v1 : Int32) (v2 : Int32) (s0 : Int32) (I : e_I) : Option (Int32 × e_I) :=
  e_b2 (f_X7_refused s0 I) (fun (r_1 : Int32) (I_2 : e_I) =>
  if r_1 = 0 then (
    e_b1 (f_X4_keep 23 I_2) (fun (I_4 : e_I) =>
    e_b1 (f_X0_exchange 23 v1 v2 I_4) (fun (I_5 : e_I) =>
    e_b1 (f_X0_batterAt 23 v1 I_5) (fun (r_6 : Int32) =>
    some (r_6, I_5)))))
  else (
    some ((-1), I_2)))
set_option maxRecDepth 100000 in
set_option maxHeartbeats 4000000 in
theorem Zf_X7_swap_37 {X : e_X} (hC : e_C X cX7_swap RX7 3 (some .int) 3 gN) (L : e_L) (v1 : Int32) (v2 : Int32) (s0 : Int32) (I : e_I) : Zo X (ph_iI L) (f_X7_swap_37 v1 v2 s0 I) 37 [(0, .ref 0), (1, .int v1), (2, .int v2)] [.int s0, .ref 0] I L := by
  unfold f_X7_swap_37
  refine zo_callV_iI hC (ci := 7) [.int s0] [] me_X7_refused mlX7_70 im_X7_refused se_X7_refused rfl (by decide) at_0 (fun p hp => T_X7_refused s0 I L p hp) (by decide) rfl (Nat.le_of_ble_eq_true rfl) dX7_swap_37 rfl (fun r_1 I_2 => ?_)
  refine zo_if_eq (tgt := 45) hC dX7_swap_40 (by decide) (fun c_3 => ?_) (fun c_3 => ?_)
  · refine zo_aload_n hC dX7_swap_45 rfl 0 rfl ?_
    refine zo_getR hC (r := 9) fk7_33 (by decide) gr_0_4 at_0 dX7_swap_46 ?_
    refine zo_aload_n hC dX7_swap_49 rfl 0 rfl ?_
    refine zo_getR hC (r := 23) fk7_23 (by decide) gr_0_2 at_0 dX7_swap_50 ?_
    refine zo_callV_vI hC (ci := 4) [.ref 23] [] me_X4_keep mlX7_315 im_X4_keep se_X4_keep rfl (by decide) at_9 (fun p hp => T_X4_keep 23 isG_23 I_2 L p hp) (by decide) rfl (Nat.le_of_ble_eq_true rfl) dX7_swap_53 rfl (fun I_4 => ?_)
    refine zo_aload_n hC dX7_swap_56 rfl 0 rfl ?_
    refine zo_getR hC (r := 23) fk7_23 (by decide) gr_0_2 at_0 dX7_swap_57 ?_
    refine zo_iload_n hC dX7_swap_60 rfl 1 rfl ?_
    refine zo_iload_n hC dX7_swap_61 rfl 2 rfl ?_
    refine zo_callV_vI hC (ci := 0) [.int v1, .int v2] [] me_X0_exchange mlX7_322 im_X0_exchange se_X0_exchange rfl (by decide) at_23 (fun p hp => T_X0_exchange 23 isG_23 v1 v2 I_4 L p hp) (by decide) rfl (Nat.le_of_ble_eq_true rfl) dX7_swap_62 rfl (fun I_5 => ?_)
    refine zo_aload_n hC dX7_swap_65 rfl 0 rfl ?_
    refine zo_getR hC (r := 23) fk7_23 (by decide) gr_0_2 at_0 dX7_swap_66 ?_
    refine zo_iload_n hC dX7_swap_69 rfl 1 rfl ?_
    refine zo_callV_i hC (ci := 0) [.int v1] [] me_X0_batterAt mlX7_161 im_X0_batterAt se_X0_batterAt rfl (by decide) at_23 (fun p hp => T_X0_batterAt 23 isG_23 v1 I_5 L p hp) (by decide) rfl (Nat.le_of_ble_eq_true rfl) dX7_swap_70 rfl (fun r_6 => ?_)
    exact zo_iret hC rfl dX7_swap_73
  · refine zo_iconst (v := (-1)) hC (by decide) dX7_swap_43 ?_
    exact zo_iret hC rfl dX7_swap_44

def f_X7_swap_23 (v1 : Int32) (v2 : Int32) (I : e_I) : Option (Int32 × e_I) :=
  f_X7_swap_37 v1 v2 1 I
set_option maxRecDepth 100000 in
set_option maxHeartbeats 4000000 in
theorem Zf_X7_swap_23 {X : e_X} (hC : e_C X cX7_swap RX7 3 (some .int) 3 gN) (L : e_L) (v1 : Int32) (v2 : Int32) (I : e_I) : Zo X (ph_iI L) (f_X7_swap_23 v1 v2 I) 23 [(0, .ref 0), (1, .int v1), (2, .int v2)] [.ref 0] I L := by
  unfold f_X7_swap_23
  refine zo_iconst (v := 1) hC (by decide) dX7_swap_23 ?_
  refine zo_goto (tgt := 37) hC dX7_swap_24 (by decide) ?_
  exact Zf_X7_swap_37 hC L v1 v2 1 I

def f_X7_swap (v1 : Int32) (v2 : Int32) (I : e_I) : Option (Int32 × e_I) :=
  e_b1 (f_X0_hasPlace 23 v1 I) (fun (r_1 : Int32) =>
  if r_1 = 0 then (
    f_X7_swap_23 v1 v2 I)
  else (
    e_b1 (f_X0_hasPlace 23 v2 I) (fun (r_3 : Int32) =>
    if r_3 ≠ 0 then (
      if v1 ≠ v2 then (
        f_X7_swap_37 v1 v2 0 I)
      else (
        f_X7_swap_37 v1 v2 5 I))
    else (
      f_X7_swap_23 v1 v2 I))))
set_option maxRecDepth 100000 in
set_option maxHeartbeats 4000000 in
theorem Zf_X7_swap {X : e_X} (hC : e_C X cX7_swap RX7 3 (some .int) 3 gN) (v1 : Int32) (v2 : Int32) (I : e_I) (L : e_L) : Zo X (ph_iI L) (f_X7_swap v1 v2 I) 0 [(0, .ref 0), (1, .int v1), (2, .int v2)] [] I L := by
  unfold f_X7_swap
  refine zo_aload_n hC dX7_swap_0 rfl 0 rfl ?_
  refine zo_aload_n hC dX7_swap_1 rfl 0 rfl ?_
  refine zo_getR hC (r := 23) fk7_23 (by decide) gr_0_2 at_0 dX7_swap_2 ?_
  refine zo_iload_n hC dX7_swap_5 rfl 1 rfl ?_
  refine zo_callV_i hC (ci := 0) [.int v1] [.ref 0] me_X0_hasPlace mlX7_158 im_X0_hasPlace se_X0_hasPlace rfl (by decide) at_23 (fun p hp => T_X0_hasPlace 23 isG_23 v1 I L p hp) (by decide) rfl (Nat.le_of_ble_eq_true rfl) dX7_swap_6 rfl (fun r_1 => ?_)
  refine zo_if_eq (tgt := 23) hC dX7_swap_9 (by decide) (fun c_2 => ?_) (fun c_2 => ?_)
  · exact Zf_X7_swap_23 hC L v1 v2 I
  · refine zo_aload_n hC dX7_swap_12 rfl 0 rfl ?_
    refine zo_getR hC (r := 23) fk7_23 (by decide) gr_0_2 at_0 dX7_swap_13 ?_
    refine zo_iload_n hC dX7_swap_16 rfl 2 rfl ?_
    refine zo_callV_i hC (ci := 0) [.int v2] [.ref 0] me_X0_hasPlace mlX7_158 im_X0_hasPlace se_X0_hasPlace rfl (by decide) at_23 (fun p hp => T_X0_hasPlace 23 isG_23 v2 I L p hp) (by decide) rfl (Nat.le_of_ble_eq_true rfl) dX7_swap_17 rfl (fun r_3 => ?_)
    refine zo_if_ne (tgt := 27) hC dX7_swap_20 (by decide) (fun c_4 => ?_) (fun c_4 => ?_)
    · refine zo_iload_n hC dX7_swap_27 rfl 1 rfl ?_
      refine zo_iload_n hC dX7_swap_28 rfl 2 rfl ?_
      refine zo_icmp_ne (tgt := 36) hC dX7_swap_29 (by decide) (fun c_5 => ?_) (fun c_5 => ?_)
      · refine zo_iconst (v := 0) hC (by decide) dX7_swap_36 ?_
        exact Zf_X7_swap_37 hC L v1 v2 0 I
      · refine zo_iconst (v := 5) hC (by decide) dX7_swap_32 ?_
        refine zo_goto (tgt := 37) hC dX7_swap_33 (by decide) ?_
        exact Zf_X7_swap_37 hC L v1 v2 5 I
    · exact Zf_X7_swap_23 hC L v1 v2 I

theorem T_X7_swap (v1 : Int32) (v2 : Int32) (I : e_I) (L : e_L) (p : Int32 × e_I) (hp : f_X7_swap v1 v2 I = some p) : Mt yX7_swap cX7_swap 3 (some .int) 3 gN [.ref 0, .int v1, .int v2] I L ((ph_iI L) p) := zo_enter hp (by decide) (Nat.le_of_ble_eq_true rfl) (fun X hC => Zf_X7_swap hC v1 v2 I L)
def f_X7_lay_80 (k47 : Int32 → Int32 → e_I → e_L → Option (Int32 × e_I × e_L)) (k102 : Int32 → e_I → e_L → Option (Int32 × e_I × e_L)) (v2 : Int32) (v3 : Int32) (I : e_I) (L : e_L) : Option (Int32 × e_I × e_L) :=
  e_b1 (f_X3_foundAt v3 I) (fun (r_1 : Int32) =>
  e_b1 (f_X0_putAt 23 v3 r_1 I) (fun (I_2 : e_I) =>
  e_let (v3 + 1) (fun (x_3 : Int32) =>
  k47 v2 x_3 I_2 L)))
set_option maxRecDepth 100000 in
set_option maxHeartbeats 4000000 in
theorem Zf_X7_lay_80 {X : e_X} (hC : e_C X cX7_lay RX7 4 (some .int) 5 gN) (k47 : Int32 → Int32 → e_I → e_L → Option (Int32 × e_I × e_L)) (k102 : Int32 → e_I → e_L → Option (Int32 × e_I × e_L)) (hk47 : ∀ (v2 : Int32) (v3 : Int32) (I : e_I) (L : e_L), Zo X (ph_iIL) (k47 v2 v3 I L) 47 [(0, .ref 0), (2, .int v2), (3, .int v3)] [] I L) (hk102 : ∀ (v2 : Int32) (I : e_I) (L : e_L), Zo X (ph_iIL) (k102 v2 I L) 102 [(2, .int v2)] [] I L) (v2 : Int32) (v3 : Int32) (I : e_I) (L : e_L) : Zo X (ph_iIL) (f_X7_lay_80 k47 k102 v2 v3 I L) 80 [(0, .ref 0), (2, .int v2), (3, .int v3)] [] I L := by
  unfold f_X7_lay_80
  refine zo_aload_n hC dX7_lay_80 rfl 0 rfl ?_
  refine zo_getR hC (r := 23) fk7_23 (by decide) gr_0_2 at_0 dX7_lay_81 ?_
  refine zo_iload_n hC dX7_lay_84 rfl 2 rfl ?_
  refine zo_aload_n hC dX7_lay_85 rfl 0 rfl ?_
  refine zo_getR hC (r := 19) fk7_47 (by decide) gr_0_6 at_0 dX7_lay_86 ?_
  refine zo_iload_n hC dX7_lay_89 rfl 2 rfl ?_
  refine zo_callV_i hC (ci := 3) [.int v3] [.int v3, .ref 23] me_X3_foundAt mlX7_268 im_X3_foundAt se_X3_foundAt rfl (by decide) at_19 (fun p hp => T_X3_foundAt v3 I L p hp) (by decide) rfl (Nat.le_of_ble_eq_true rfl) dX7_lay_90 rfl (fun r_1 => ?_)
  refine zo_callV_vI hC (ci := 0) [.int v3, .int r_1] [] me_X0_putAt mlX7_326 im_X0_putAt se_X0_putAt rfl (by decide) at_23 (fun p hp => T_X0_putAt 23 isG_23 v3 r_1 I L p hp) (by decide) rfl (Nat.le_of_ble_eq_true rfl) dX7_lay_93 rfl (fun I_2 => ?_)
  refine zo_iinc hC (x := v3) (fun x_3 => [(3, .int x_3), (0, .ref 0), (2, .int v2)]) dX7_lay_96 2 rfl (by rfl) (by decide) (fun _ => rfl) (fun x_3 => ?_)
  refine zo_goto (tgt := 47) hC dX7_lay_99 (by decide) ?_
  refine zo_sub [1, 2, 0] (lv' := [(0, .ref 0), (2, .int v2), (3, .int x_3)]) rfl ?_
  exact hk47 v2 x_3 I_2 L

def f_X7_lay_47 (k102 : Int32 → e_I → e_L → Option (Int32 × e_I × e_L)) : Nat → Int32 → Int32 → e_I → e_L → Option (Int32 × e_I × e_L)
  | 0, _, _, _, _ => none
  | n + 1, v2, v3, I, L =>
    if v3 ≥ (I 23 0) then (
      k102 v2 I L)
    else (
      e_b1 (f_X0_batterAt 23 v3 I) (fun (r_2 : Int32) =>
      e_b1 (f_X3_foundAt v3 I) (fun (r_3 : Int32) =>
      if r_2 = r_3 then (
        f_X7_lay_80 (fun v2 v3 I L => f_X7_lay_47 k102 n v2 v3 I L) k102 v2 v3 I L)
      else (
        e_let (v2 + 1) (fun (x_5 : Int32) =>
        f_X7_lay_80 (fun v2 v3 I L => f_X7_lay_47 k102 n v2 v3 I L) k102 x_5 v3 I L)))))
set_option maxRecDepth 100000 in
set_option maxHeartbeats 4000000 in
theorem Zf_X7_lay_47 {X : e_X} (hC : e_C X cX7_lay RX7 4 (some .int) 5 gN) (k102 : Int32 → e_I → e_L → Option (Int32 × e_I × e_L)) (hk102 : ∀ (v2 : Int32) (I : e_I) (L : e_L), Zo X (ph_iIL) (k102 v2 I L) 102 [(2, .int v2)] [] I L) : ∀ (n : Nat) (v2 : Int32) (v3 : Int32) (I : e_I) (L : e_L), Zo X (ph_iIL) (f_X7_lay_47 k102 n v2 v3 I L) 47 [(0, .ref 0), (2, .int v2), (3, .int v3)] [] I L := by
  intro n
  induction n with
  | zero => intro v2 v3 I L p hp; cases hp
  | succ n ih =>
    intro v2 v3 I L
    unfold f_X7_lay_47
    refine zo_iload_n hC dX7_lay_47 rfl 2 rfl ?_
    refine zo_aload_n hC dX7_lay_48 rfl 0 rfl ?_
    refine zo_getR hC (r := 23) fk7_23 (by decide) gr_0_2 at_0 dX7_lay_49 ?_
    refine zo_getI hC fk7_104 at_23 dX7_lay_52 ?_
    refine zo_icmp_ge (tgt := 102) hC dX7_lay_55 (by decide) (fun c_1 => ?_) (fun c_1 => ?_)
    · refine zo_sub [1] (lv' := [(2, .int v2)]) rfl ?_
      exact hk102 v2 I L
    · refine zo_aload_n hC dX7_lay_58 rfl 0 rfl ?_
      refine zo_getR hC (r := 23) fk7_23 (by decide) gr_0_2 at_0 dX7_lay_59 ?_
      refine zo_iload_n hC dX7_lay_62 rfl 2 rfl ?_
      refine zo_callV_i hC (ci := 0) [.int v3] [] me_X0_batterAt mlX7_161 im_X0_batterAt se_X0_batterAt rfl (by decide) at_23 (fun p hp => T_X0_batterAt 23 isG_23 v3 I L p hp) (by decide) rfl (Nat.le_of_ble_eq_true rfl) dX7_lay_63 rfl (fun r_2 => ?_)
      refine zo_aload_n hC dX7_lay_66 rfl 0 rfl ?_
      refine zo_getR hC (r := 19) fk7_47 (by decide) gr_0_6 at_0 dX7_lay_67 ?_
      refine zo_iload_n hC dX7_lay_70 rfl 2 rfl ?_
      refine zo_callV_i hC (ci := 3) [.int v3] [.int r_2] me_X3_foundAt mlX7_268 im_X3_foundAt se_X3_foundAt rfl (by decide) at_19 (fun p hp => T_X3_foundAt v3 I L p hp) (by decide) rfl (Nat.le_of_ble_eq_true rfl) dX7_lay_71 rfl (fun r_3 => ?_)
      refine zo_icmp_eq (tgt := 80) hC dX7_lay_74 (by decide) (fun c_4 => ?_) (fun c_4 => ?_)
      · exact Zf_X7_lay_80 hC (fun v2 v3 I L => f_X7_lay_47 k102 n v2 v3 I L) k102 (fun v2 v3 I L => ih v2 v3 I L) hk102 v2 v3 I L
      · refine zo_iinc hC (x := v2) (fun x_5 => [(2, .int x_5), (0, .ref 0), (3, .int v3)]) dX7_lay_77 1 rfl (by rfl) (by decide) (fun _ => rfl) (fun x_5 => ?_)
        refine zo_sub [1, 0, 2] (lv' := [(0, .ref 0), (2, .int x_5), (3, .int v3)]) rfl ?_
        exact Zf_X7_lay_80 hC (fun v2 v3 I L => f_X7_lay_47 k102 n v2 v3 I L) k102 (fun v2 v3 I L => ih v2 v3 I L) hk102 x_5 v3 I L

def f_X7_lay (v1 : Int32) (I : e_I) (L : e_L) : Option (Int32 × e_I × e_L) :=
  e_b1 (f_X7_troubleOfDepth 1 v1 3 I) (fun (r_1 : Int32) =>
  e_b2 (f_X7_refused r_1 I) (fun (r_2 : Int32) (I_3 : e_I) =>
  if r_2 = 0 then (
    e_b1 (f_X4_keep 23 I_3) (fun (I_5 : e_I) =>
    e_b2 (f_X3_seek 23 v1 I_5 L) (fun (I_6 : e_I) (L_7 : e_L) =>
    f_X7_lay_47 (fun (v2_8 : Int32) (I_9 : e_I) (L_10 : e_L) =>
      some (v2_8, I_9, L_10)) e_FU 0 0 I_6 L_7)))
  else (
    some ((-1), I_3, L))))
set_option maxRecDepth 100000 in
set_option maxHeartbeats 4000000 in
theorem Zf_X7_lay {X : e_X} (hC : e_C X cX7_lay RX7 4 (some .int) 5 gN) (v1 : Int32) (I : e_I) (L : e_L) : Zo X (ph_iIL) (f_X7_lay v1 I L) 0 [(0, .ref 0), (1, .int v1)] [] I L := by
  unfold f_X7_lay
  refine zo_aload_n hC dX7_lay_0 rfl 0 rfl ?_
  refine zo_aload_n hC dX7_lay_1 rfl 0 rfl ?_
  refine zo_iconst (v := 1) hC (by decide) dX7_lay_2 ?_
  refine zo_iload_n hC dX7_lay_3 rfl 1 rfl ?_
  refine zo_iconst (v := 3) hC (by decide) dX7_lay_4 ?_
  refine zo_callV_i hC (ci := 7) [.int 1, .int v1, .int 3] [.ref 0] me_X7_troubleOfDepth mlX7_252 im_X7_troubleOfDepth se_X7_troubleOfDepth rfl (by decide) at_0 (fun p hp => T_X7_troubleOfDepth 1 v1 3 I L p hp) (by decide) rfl (Nat.le_of_ble_eq_true rfl) dX7_lay_5 rfl (fun r_1 => ?_)
  refine zo_callV_iI hC (ci := 7) [.int r_1] [] me_X7_refused mlX7_70 im_X7_refused se_X7_refused rfl (by decide) at_0 (fun p hp => T_X7_refused r_1 I L p hp) (by decide) rfl (Nat.le_of_ble_eq_true rfl) dX7_lay_8 rfl (fun r_2 I_3 => ?_)
  refine zo_if_eq (tgt := 16) hC dX7_lay_11 (by decide) (fun c_4 => ?_) (fun c_4 => ?_)
  · refine zo_aload_n hC dX7_lay_16 rfl 0 rfl ?_
    refine zo_getR hC (r := 9) fk7_33 (by decide) gr_0_4 at_0 dX7_lay_17 ?_
    refine zo_aload_n hC dX7_lay_20 rfl 0 rfl ?_
    refine zo_getR hC (r := 23) fk7_23 (by decide) gr_0_2 at_0 dX7_lay_21 ?_
    refine zo_callV_vI hC (ci := 4) [.ref 23] [] me_X4_keep mlX7_315 im_X4_keep se_X4_keep rfl (by decide) at_9 (fun p hp => T_X4_keep 23 isG_23 I_3 L p hp) (by decide) rfl (Nat.le_of_ble_eq_true rfl) dX7_lay_24 rfl (fun I_5 => ?_)
    refine zo_aload_n hC dX7_lay_27 rfl 0 rfl ?_
    refine zo_getR hC (r := 19) fk7_47 (by decide) gr_0_6 at_0 dX7_lay_28 ?_
    refine zo_aload_n hC dX7_lay_31 rfl 0 rfl ?_
    refine zo_getR hC (r := 11) fk7_40 (by decide) gr_0_5 at_0 dX7_lay_32 ?_
    refine zo_aload_n hC dX7_lay_35 rfl 0 rfl ?_
    refine zo_getR hC (r := 23) fk7_23 (by decide) gr_0_2 at_0 dX7_lay_36 ?_
    refine zo_iload_n hC dX7_lay_39 rfl 1 rfl ?_
    refine zo_callV_vIL hC (ci := 3) [.ref 11, .ref 23, .int v1] [] me_X3_seek mlX7_260 im_X3_seek se_X3_seek rfl (by decide) at_19 (fun p hp => T_X3_seek 23 isG_23 v1 I_5 L p hp) (by decide) rfl (Nat.le_of_ble_eq_true rfl) dX7_lay_40 rfl (fun I_6 L_7 => ?_)
    refine zo_iconst (v := 0) hC (by decide) dX7_lay_43 ?_
    refine zo_istore_n (lv' := [(2, .int 0), (0, .ref 0), (1, .int v1)]) hC dX7_lay_44 rfl (by decide) rfl ?_
    refine zo_iconst (v := 0) hC (by decide) dX7_lay_45 ?_
    refine zo_istore_n (lv' := [(3, .int 0), (2, .int 0), (0, .ref 0), (1, .int v1)]) hC dX7_lay_46 rfl (by decide) rfl ?_
    refine zo_sub [2, 1, 0] (lv' := [(0, .ref 0), (2, .int 0), (3, .int 0)]) rfl ?_
    refine Zf_X7_lay_47 hC _ (fun v2_8 I_9 L_10 => ?_) e_FU 0 0 I_6 L_7
    · refine zo_iload_n hC dX7_lay_102 rfl 0 rfl ?_
      exact zo_iret hC rfl dX7_lay_103
  · refine zo_iconst (v := (-1)) hC (by decide) dX7_lay_14 ?_
    exact zo_iret hC rfl dX7_lay_15

theorem T_X7_lay (v1 : Int32) (I : e_I) (L : e_L) (p : Int32 × e_I × e_L) (hp : f_X7_lay v1 I L = some p) : Mt yX7_lay cX7_lay 4 (some .int) 5 gN [.ref 0, .int v1] I L ((ph_iIL) p) := zo_enter hp (by decide) (Nat.le_of_ble_eq_true rfl) (fun X hC => Zf_X7_lay hC v1 I L)
def f_X3_improve_81 (g2 : Nat) (v3 : Int32) (v8 : Int32) (k39 : Int64 → Int32 → Int32 → Int32 → e_I → e_L → Option (Int32 × e_I × e_L)) (k87 : Int64 → Int32 → Int32 → e_I → e_L → Option (Int32 × e_I × e_L)) (v4 : Int64) (v6 : Int32) (v7 : Int32) (v9 : Int32) (I : e_I) (L : e_L) : Option (Int32 × e_I × e_L) :=
  e_let (v9 + 1) (fun (x_1 : Int32) =>
  k39 v4 v6 v7 x_1 I L)
set_option maxRecDepth 100000 in
set_option maxHeartbeats 4000000 in
theorem Zf_X3_improve_81 {X : e_X} (hC : e_C X cX3_improve RX3 12 (some .boolean) 5 gN) (g2 : Nat) (hg2 : e_isG g2) (v3 : Int32) (v8 : Int32) (k39 : Int64 → Int32 → Int32 → Int32 → e_I → e_L → Option (Int32 × e_I × e_L)) (k87 : Int64 → Int32 → Int32 → e_I → e_L → Option (Int32 × e_I × e_L)) (hk39 : ∀ (v4 : Int64) (v6 : Int32) (v7 : Int32) (v9 : Int32) (I : e_I) (L : e_L), Zo X (ph_iIL) (k39 v4 v6 v7 v9 I L) 39 [(0, .ref 19), (1, .ref 11), (2, .ref g2), (3, .int v3), (4, .long v4), (6, .int v6), (7, .int v7), (8, .int v8), (9, .int v9)] [] I L) (hk87 : ∀ (v4 : Int64) (v6 : Int32) (v7 : Int32) (I : e_I) (L : e_L), Zo X (ph_iIL) (k87 v4 v6 v7 I L) 87 [(0, .ref 19), (1, .ref 11), (2, .ref g2), (3, .int v3), (4, .long v4), (6, .int v6), (7, .int v7), (8, .int v8)] [] I L) (v4 : Int64) (v6 : Int32) (v7 : Int32) (v9 : Int32) (I : e_I) (L : e_L) : Zo X (ph_iIL) (f_X3_improve_81 g2 v3 v8 k39 k87 v4 v6 v7 v9 I L) 81 [(0, .ref 19), (1, .ref 11), (2, .ref g2), (3, .int v3), (4, .long v4), (6, .int v6), (7, .int v7), (8, .int v8), (9, .int v9)] [] I L := by
  unfold f_X3_improve_81
  refine zo_iinc hC (x := v9) (fun x_1 => [(9, .int x_1), (0, .ref 19), (1, .ref 11), (2, .ref g2), (3, .int v3), (4, .long v4), (6, .int v6), (7, .int v7), (8, .int v8)]) dX3_improve_81 8 rfl (by rfl) (by decide) (fun _ => rfl) (fun x_1 => ?_)
  refine zo_goto (tgt := 39) hC dX3_improve_84 (by decide) ?_
  refine zo_sub [1, 2, 3, 4, 5, 6, 7, 8, 0] (lv' := [(0, .ref 19), (1, .ref 11), (2, .ref g2), (3, .int v3), (4, .long v4), (6, .int v6), (7, .int v7), (8, .int v8), (9, .int x_1)]) rfl ?_
  exact hk39 v4 v6 v7 x_1 I L

def f_X3_improve_39 (g2 : Nat) (v3 : Int32) (v8 : Int32) (k87 : Int64 → Int32 → Int32 → e_I → e_L → Option (Int32 × e_I × e_L)) : Nat → Int64 → Int32 → Int32 → Int32 → e_I → e_L → Option (Int32 × e_I × e_L)
  | 0, _, _, _, _, _, _ => none
  | n + 1, v4, v6, v7, v9, I, L =>
    if v9 ≥ (I g2 0) then (
      k87 v4 v6 v7 I L)
    else (
      e_b3 (f_X3_worthExchanged g2 v8 v9 v3 I L) (fun (r_2 : Int64) (I_3 : e_I) (L_4 : e_L) =>
      if (lg_cmp r_2 v4) ≤ 0 then (
        f_X3_improve_81 g2 v3 v8 (fun v4 v6 v7 v9 I L => f_X3_improve_39 g2 v3 v8 k87 n v4 v6 v7 v9 I L) k87 v4 v6 v7 v9 I_3 L_4)
      else (
        f_X3_improve_81 g2 v3 v8 (fun v4 v6 v7 v9 I L => f_X3_improve_39 g2 v3 v8 k87 n v4 v6 v7 v9 I L) k87 r_2 v8 v9 v9 I_3 L_4)))
set_option maxRecDepth 100000 in
set_option maxHeartbeats 4000000 in
theorem Zf_X3_improve_39 {X : e_X} (hC : e_C X cX3_improve RX3 12 (some .boolean) 5 gN) (g2 : Nat) (hg2 : e_isG g2) (v3 : Int32) (v8 : Int32) (k87 : Int64 → Int32 → Int32 → e_I → e_L → Option (Int32 × e_I × e_L)) (hk87 : ∀ (v4 : Int64) (v6 : Int32) (v7 : Int32) (I : e_I) (L : e_L), Zo X (ph_iIL) (k87 v4 v6 v7 I L) 87 [(0, .ref 19), (1, .ref 11), (2, .ref g2), (3, .int v3), (4, .long v4), (6, .int v6), (7, .int v7), (8, .int v8)] [] I L) : ∀ (n : Nat) (v4 : Int64) (v6 : Int32) (v7 : Int32) (v9 : Int32) (I : e_I) (L : e_L), Zo X (ph_iIL) (f_X3_improve_39 g2 v3 v8 k87 n v4 v6 v7 v9 I L) 39 [(0, .ref 19), (1, .ref 11), (2, .ref g2), (3, .int v3), (4, .long v4), (6, .int v6), (7, .int v7), (8, .int v8), (9, .int v9)] [] I L := by
  intro n
  induction n with
  | zero => intro v4 v6 v7 v9 I L p hp; cases hp
  | succ n ih =>
    intro v4 v6 v7 v9 I L
    unfold f_X3_improve_39
    refine zo_iload hC dX3_improve_39 8 rfl ?_
    refine zo_aload_n hC dX3_improve_41 rfl 2 rfl ?_
    refine zo_getI hC fk3_34 (atG hg2) dX3_improve_42 ?_
    refine zo_icmp_ge (tgt := 87) hC dX3_improve_45 (by decide) (fun c_1 => ?_) (fun c_1 => ?_)
    · refine zo_sub [0, 1, 2, 3, 4, 5, 6, 7] (lv' := [(0, .ref 19), (1, .ref 11), (2, .ref g2), (3, .int v3), (4, .long v4), (6, .int v6), (7, .int v7), (8, .int v8)]) rfl ?_
      exact hk87 v4 v6 v7 I L
    · refine zo_aload_n hC dX3_improve_48 rfl 0 rfl ?_
      refine zo_aload_n hC dX3_improve_49 rfl 1 rfl ?_
      refine zo_aload_n hC dX3_improve_50 rfl 2 rfl ?_
      refine zo_iload hC dX3_improve_51 7 rfl ?_
      refine zo_iload hC dX3_improve_53 8 rfl ?_
      refine zo_iload_n hC dX3_improve_55 rfl 3 rfl ?_
      refine zo_callV_lIL hC (ci := 3) [.ref 11, .ref g2, .int v8, .int v9, .int v3] [] me_X3_worthExchanged mlX3_38 im_X3_worthExchanged se_X3_worthExchanged rfl (by decide) at_19 (fun p hp => T_X3_worthExchanged g2 hg2 v8 v9 v3 I L p hp) (by decide) rfl (Nat.le_of_ble_eq_true rfl) dX3_improve_56 rfl (fun r_2 I_3 L_4 => ?_)
      refine zo_lstore (lv' := [(10, .long r_2), (0, .ref 19), (1, .ref 11), (2, .ref g2), (3, .int v3), (4, .long v4), (6, .int v6), (7, .int v7), (8, .int v8), (9, .int v9)]) hC dX3_improve_59 (by decide) rfl ?_
      refine zo_lload hC dX3_improve_61 0 rfl ?_
      refine zo_lload hC dX3_improve_63 5 rfl ?_
      refine zo_lcmp hC dX3_improve_65 ?_
      refine zo_if_le (tgt := 81) hC dX3_improve_66 (by decide) (fun c_5 => ?_) (fun c_5 => ?_)
      · refine zo_sub [1, 2, 3, 4, 5, 6, 7, 8, 9] (lv' := [(0, .ref 19), (1, .ref 11), (2, .ref g2), (3, .int v3), (4, .long v4), (6, .int v6), (7, .int v7), (8, .int v8), (9, .int v9)]) rfl ?_
        exact Zf_X3_improve_81 hC g2 hg2 v3 v8 (fun v4 v6 v7 v9 I L => f_X3_improve_39 g2 v3 v8 k87 n v4 v6 v7 v9 I L) k87 (fun v4 v6 v7 v9 I L => ih v4 v6 v7 v9 I L) hk87 v4 v6 v7 v9 I_3 L_4
      · refine zo_lload hC dX3_improve_69 0 rfl ?_
        refine zo_lstore (lv' := [(4, .long r_2), (10, .long r_2), (0, .ref 19), (1, .ref 11), (2, .ref g2), (3, .int v3), (6, .int v6), (7, .int v7), (8, .int v8), (9, .int v9)]) hC dX3_improve_71 (by decide) rfl ?_
        refine zo_iload hC dX3_improve_73 8 rfl ?_
        refine zo_istore (lv' := [(6, .int v8), (4, .long r_2), (10, .long r_2), (0, .ref 19), (1, .ref 11), (2, .ref g2), (3, .int v3), (7, .int v7), (8, .int v8), (9, .int v9)]) hC dX3_improve_75 (by decide) rfl ?_
        refine zo_iload hC dX3_improve_77 9 rfl ?_
        refine zo_istore (lv' := [(7, .int v9), (6, .int v8), (4, .long r_2), (10, .long r_2), (0, .ref 19), (1, .ref 11), (2, .ref g2), (3, .int v3), (8, .int v8), (9, .int v9)]) hC dX3_improve_79 (by decide) rfl ?_
        refine zo_sub [4, 5, 6, 7, 2, 1, 0, 8, 9] (lv' := [(0, .ref 19), (1, .ref 11), (2, .ref g2), (3, .int v3), (4, .long r_2), (6, .int v8), (7, .int v9), (8, .int v8), (9, .int v9)]) rfl ?_
        exact Zf_X3_improve_81 hC g2 hg2 v3 v8 (fun v4 v6 v7 v9 I L => f_X3_improve_39 g2 v3 v8 k87 n v4 v6 v7 v9 I L) k87 (fun v4 v6 v7 v9 I L => ih v4 v6 v7 v9 I L) hk87 r_2 v8 v9 v9 I_3 L_4

def f_X3_improve_18 (g2 : Nat) (v3 : Int32) (k93 : Int32 → Int32 → e_I → e_L → Option (Int32 × e_I × e_L)) : Nat → Int64 → Int32 → Int32 → Int32 → e_I → e_L → Option (Int32 × e_I × e_L)
  | 0, _, _, _, _, _, _ => none
  | n + 1, v4, v6, v7, v8, I, L =>
    if v8 ≥ (I g2 0) then (
      k93 v6 v7 I L)
    else (
      if v8 ≥ v3 then (
        k93 v6 v7 I L)
      else (
        e_let (v8 + 1) (fun (x_3 : Int32) =>
        f_X3_improve_39 g2 v3 v8 (fun (v4_4 : Int64) (v6_5 : Int32) (v7_6 : Int32) (I_7 : e_I) (L_8 : e_L) =>
          e_let (v8 + 1) (fun (x_9 : Int32) =>
          f_X3_improve_18 g2 v3 k93 n v4_4 v6_5 v7_6 x_9 I_7 L_8)) e_FU v4 v6 v7 x_3 I L)))
set_option maxRecDepth 100000 in
set_option maxHeartbeats 4000000 in
theorem Zf_X3_improve_18 {X : e_X} (hC : e_C X cX3_improve RX3 12 (some .boolean) 5 gN) (g2 : Nat) (hg2 : e_isG g2) (v3 : Int32) (k93 : Int32 → Int32 → e_I → e_L → Option (Int32 × e_I × e_L)) (hk93 : ∀ (v6 : Int32) (v7 : Int32) (I : e_I) (L : e_L), Zo X (ph_iIL) (k93 v6 v7 I L) 93 [(2, .ref g2), (6, .int v6), (7, .int v7)] [] I L) : ∀ (n : Nat) (v4 : Int64) (v6 : Int32) (v7 : Int32) (v8 : Int32) (I : e_I) (L : e_L), Zo X (ph_iIL) (f_X3_improve_18 g2 v3 k93 n v4 v6 v7 v8 I L) 18 [(0, .ref 19), (1, .ref 11), (2, .ref g2), (3, .int v3), (4, .long v4), (6, .int v6), (7, .int v7), (8, .int v8)] [] I L := by
  intro n
  induction n with
  | zero => intro v4 v6 v7 v8 I L p hp; cases hp
  | succ n ih =>
    intro v4 v6 v7 v8 I L
    unfold f_X3_improve_18
    refine zo_iload hC dX3_improve_18 7 rfl ?_
    refine zo_aload_n hC dX3_improve_20 rfl 2 rfl ?_
    refine zo_getI hC fk3_34 (atG hg2) dX3_improve_21 ?_
    refine zo_icmp_ge (tgt := 93) hC dX3_improve_24 (by decide) (fun c_1 => ?_) (fun c_1 => ?_)
    · refine zo_sub [2, 5, 6] (lv' := [(2, .ref g2), (6, .int v6), (7, .int v7)]) rfl ?_
      exact hk93 v6 v7 I L
    · refine zo_iload hC dX3_improve_27 7 rfl ?_
      refine zo_iload_n hC dX3_improve_29 rfl 3 rfl ?_
      refine zo_icmp_ge (tgt := 93) hC dX3_improve_30 (by decide) (fun c_2 => ?_) (fun c_2 => ?_)
      · refine zo_sub [2, 5, 6] (lv' := [(2, .ref g2), (6, .int v6), (7, .int v7)]) rfl ?_
        exact hk93 v6 v7 I L
      · refine zo_iload hC dX3_improve_33 7 rfl ?_
        refine zo_iconst (v := 1) hC (by decide) dX3_improve_35 ?_
        refine zo_iadd hC dX3_improve_36 ?_
        refine zo_topi (fun x_3 => ?_)
        refine zo_istore (lv' := [(9, .int x_3), (0, .ref 19), (1, .ref 11), (2, .ref g2), (3, .int v3), (4, .long v4), (6, .int v6), (7, .int v7), (8, .int v8)]) hC dX3_improve_37 (by decide) rfl ?_
        refine zo_sub [1, 2, 3, 4, 5, 6, 7, 8, 0] (lv' := [(0, .ref 19), (1, .ref 11), (2, .ref g2), (3, .int v3), (4, .long v4), (6, .int v6), (7, .int v7), (8, .int v8), (9, .int x_3)]) rfl ?_
        refine Zf_X3_improve_39 hC g2 hg2 v3 v8 _ (fun v4_4 v6_5 v7_6 I_7 L_8 => ?_) e_FU v4 v6 v7 x_3 I L
        · refine zo_iinc hC (x := v8) (fun x_9 => [(8, .int x_9), (0, .ref 19), (1, .ref 11), (2, .ref g2), (3, .int v3), (4, .long v4_4), (6, .int v6_5), (7, .int v7_6)]) dX3_improve_87 7 rfl (by rfl) (by decide) (fun _ => rfl) (fun x_9 => ?_)
          refine zo_goto (tgt := 18) hC dX3_improve_90 (by decide) ?_
          refine zo_sub [1, 2, 3, 4, 5, 6, 7, 0] (lv' := [(0, .ref 19), (1, .ref 11), (2, .ref g2), (3, .int v3), (4, .long v4_4), (6, .int v6_5), (7, .int v7_6), (8, .int x_9)]) rfl ?_
          exact ih v4_4 v6_5 v7_6 x_9 I_7 L_8

def f_X3_improve (g2 : Nat) (v3 : Int32) (I : e_I) (L : e_L) : Option (Int32 × e_I × e_L) :=
  e_b3 (f_X3_worthNow g2 v3 I L) (fun (r_1 : Int64) (I_2 : e_I) (L_3 : e_L) =>
  f_X3_improve_18 g2 v3 (fun (v6_4 : Int32) (v7_5 : Int32) (I_6 : e_I) (L_7 : e_L) =>
    if v6_4 ≠ (-1) then (
      e_b1 (f_X0_exchange g2 v6_4 v7_5 I_6) (fun (I_9 : e_I) =>
      some (1, I_9, L_7)))
    else (
      some (0, I_6, L_7))) e_FU r_1 (-1) (-1) 0 I_2 L_3)
set_option maxRecDepth 100000 in
set_option maxHeartbeats 4000000 in
theorem Zf_X3_improve {X : e_X} (hC : e_C X cX3_improve RX3 12 (some .boolean) 5 gN) (g2 : Nat) (hg2 : e_isG g2) (v3 : Int32) (I : e_I) (L : e_L) : Zo X (ph_iIL) (f_X3_improve g2 v3 I L) 0 [(0, .ref 19), (1, .ref 11), (2, .ref g2), (3, .int v3)] [] I L := by
  unfold f_X3_improve
  refine zo_aload_n hC dX3_improve_0 rfl 0 rfl ?_
  refine zo_aload_n hC dX3_improve_1 rfl 1 rfl ?_
  refine zo_aload_n hC dX3_improve_2 rfl 2 rfl ?_
  refine zo_iload_n hC dX3_improve_3 rfl 3 rfl ?_
  refine zo_callV_lIL hC (ci := 3) [.ref 11, .ref g2, .int v3] [] me_X3_worthNow mlX3_30 im_X3_worthNow se_X3_worthNow rfl (by decide) at_19 (fun p hp => T_X3_worthNow g2 hg2 v3 I L p hp) (by decide) rfl (Nat.le_of_ble_eq_true rfl) dX3_improve_4 rfl (fun r_1 I_2 L_3 => ?_)
  refine zo_lstore (lv' := [(4, .long r_1), (0, .ref 19), (1, .ref 11), (2, .ref g2), (3, .int v3)]) hC dX3_improve_7 (by decide) rfl ?_
  refine zo_iconst (v := (-1)) hC (by decide) dX3_improve_9 ?_
  refine zo_istore (lv' := [(6, .int (-1)), (4, .long r_1), (0, .ref 19), (1, .ref 11), (2, .ref g2), (3, .int v3)]) hC dX3_improve_10 (by decide) rfl ?_
  refine zo_iconst (v := (-1)) hC (by decide) dX3_improve_12 ?_
  refine zo_istore (lv' := [(7, .int (-1)), (6, .int (-1)), (4, .long r_1), (0, .ref 19), (1, .ref 11), (2, .ref g2), (3, .int v3)]) hC dX3_improve_13 (by decide) rfl ?_
  refine zo_iconst (v := 0) hC (by decide) dX3_improve_15 ?_
  refine zo_istore (lv' := [(8, .int 0), (7, .int (-1)), (6, .int (-1)), (4, .long r_1), (0, .ref 19), (1, .ref 11), (2, .ref g2), (3, .int v3)]) hC dX3_improve_16 (by decide) rfl ?_
  refine zo_sub [4, 5, 6, 7, 3, 2, 1, 0] (lv' := [(0, .ref 19), (1, .ref 11), (2, .ref g2), (3, .int v3), (4, .long r_1), (6, .int (-1)), (7, .int (-1)), (8, .int 0)]) rfl ?_
  refine Zf_X3_improve_18 hC g2 hg2 v3 _ (fun v6_4 v7_5 I_6 L_7 => ?_) e_FU r_1 (-1) (-1) 0 I_2 L_3
  · refine zo_iload hC dX3_improve_93 1 rfl ?_
    refine zo_iconst (v := (-1)) hC (by decide) dX3_improve_95 ?_
    refine zo_icmp_ne (tgt := 101) hC dX3_improve_96 (by decide) (fun c_8 => ?_) (fun c_8 => ?_)
    · refine zo_aload_n hC dX3_improve_101 rfl 0 rfl ?_
      refine zo_iload hC dX3_improve_102 1 rfl ?_
      refine zo_iload hC dX3_improve_104 2 rfl ?_
      refine zo_callV_vI hC (ci := 0) [.int v6_4, .int v7_5] [] me_X0_exchange mlX3_24 im_X0_exchange se_X0_exchange rfl (by decide) (atG hg2) (fun p hp => T_X0_exchange g2 hg2 v6_4 v7_5 I_6 L_7 p hp) (by decide) rfl (Nat.le_of_ble_eq_true rfl) dX3_improve_106 rfl (fun I_9 => ?_)
      refine zo_iconst (v := 1) hC (by decide) dX3_improve_109 ?_
      exact zo_zret hC (by decide) rfl dX3_improve_110
    · refine zo_iconst (v := 0) hC (by decide) dX3_improve_99 ?_
      exact zo_zret hC (by decide) rfl dX3_improve_100

theorem T_X3_improve (g2 : Nat) (hg2 : e_isG g2) (v3 : Int32) (I : e_I) (L : e_L) (p : Int32 × e_I × e_L) (hp : f_X3_improve g2 v3 I L = some p) : Mt yX3_improve cX3_improve 12 (some .boolean) 5 gN [.ref 19, .ref 11, .ref g2, .int v3] I L ((ph_iIL) p) := zo_enter hp (by decide) (Nat.le_of_ble_eq_true rfl) (fun X hC => Zf_X3_improve hC g2 hg2 v3 I L)
def f_X7_better_29 (v1 : Int32) (k60 : Int32 → e_I → e_L → Option (Int32 × e_I × e_L)) : Nat → Int32 → e_I → e_L → Option (Int32 × e_I × e_L)
  | 0, _, _, _ => none
  | n + 1, v2, I, L =>
    if v2 ≥ 60 then (
      k60 v2 I L)
    else (
      e_b3 (f_X3_improve 23 v1 I L) (fun (r_2 : Int32) (I_3 : e_I) (L_4 : e_L) =>
      if r_2 = 0 then (
        k60 v2 I_3 L_4)
      else (
        e_let (v2 + 1) (fun (x_6 : Int32) =>
        f_X7_better_29 v1 k60 n x_6 I_3 L_4))))
set_option maxRecDepth 100000 in
set_option maxHeartbeats 4000000 in
theorem Zf_X7_better_29 {X : e_X} (hC : e_C X cX7_better RX7 3 (some .int) 6 gN) (v1 : Int32) (k60 : Int32 → e_I → e_L → Option (Int32 × e_I × e_L)) (hk60 : ∀ (v2 : Int32) (I : e_I) (L : e_L), Zo X (ph_iIL) (k60 v2 I L) 60 [(2, .int v2)] [] I L) : ∀ (n : Nat) (v2 : Int32) (I : e_I) (L : e_L), Zo X (ph_iIL) (f_X7_better_29 v1 k60 n v2 I L) 29 [(0, .ref 0), (1, .int v1), (2, .int v2)] [] I L := by
  intro n
  induction n with
  | zero => intro v2 I L p hp; cases hp
  | succ n ih =>
    intro v2 I L
    unfold f_X7_better_29
    refine zo_iload_n hC dX7_better_29 rfl 2 rfl ?_
    refine zo_bipush (v := 60) hC (by decide) dX7_better_30 ?_
    refine zo_icmp_ge (tgt := 60) hC dX7_better_32 (by decide) (fun c_1 => ?_) (fun c_1 => ?_)
    · refine zo_sub [2] (lv' := [(2, .int v2)]) rfl ?_
      exact hk60 v2 I L
    · refine zo_aload_n hC dX7_better_35 rfl 0 rfl ?_
      refine zo_getR hC (r := 19) fk7_47 (by decide) gr_0_6 at_0 dX7_better_36 ?_
      refine zo_aload_n hC dX7_better_39 rfl 0 rfl ?_
      refine zo_getR hC (r := 11) fk7_40 (by decide) gr_0_5 at_0 dX7_better_40 ?_
      refine zo_aload_n hC dX7_better_43 rfl 0 rfl ?_
      refine zo_getR hC (r := 23) fk7_23 (by decide) gr_0_2 at_0 dX7_better_44 ?_
      refine zo_iload_n hC dX7_better_47 rfl 1 rfl ?_
      refine zo_callV_iIL hC (ci := 3) [.ref 11, .ref 23, .int v1] [] me_X3_improve mlX7_329 im_X3_improve se_X3_improve rfl (by decide) at_19 (fun p hp => T_X3_improve 23 isG_23 v1 I L p hp) (by decide) rfl (Nat.le_of_ble_eq_true rfl) dX7_better_48 rfl (fun r_2 I_3 L_4 => ?_)
      refine zo_if_eq (tgt := 60) hC dX7_better_51 (by decide) (fun c_5 => ?_) (fun c_5 => ?_)
      · refine zo_sub [2] (lv' := [(2, .int v2)]) rfl ?_
        exact hk60 v2 I_3 L_4
      · refine zo_iinc hC (x := v2) (fun x_6 => [(2, .int x_6), (0, .ref 0), (1, .int v1)]) dX7_better_54 2 rfl (by rfl) (by decide) (fun _ => rfl) (fun x_6 => ?_)
        refine zo_goto (tgt := 29) hC dX7_better_57 (by decide) ?_
        refine zo_sub [1, 2, 0] (lv' := [(0, .ref 0), (1, .int v1), (2, .int x_6)]) rfl ?_
        exact ih x_6 I_3 L_4

def f_X7_better (v1 : Int32) (I : e_I) (L : e_L) : Option (Int32 × e_I × e_L) :=
  e_b1 (f_X7_troubleOfDepth 1 v1 5 I) (fun (r_1 : Int32) =>
  e_b2 (f_X7_refused r_1 I) (fun (r_2 : Int32) (I_3 : e_I) =>
  if r_2 = 0 then (
    e_b1 (f_X4_keep 23 I_3) (fun (I_5 : e_I) =>
    f_X7_better_29 v1 (fun (v2_6 : Int32) (I_7 : e_I) (L_8 : e_L) =>
      some (v2_6, I_7, L_8)) e_FU 0 I_5 L))
  else (
    some ((-1), I_3, L))))
set_option maxRecDepth 100000 in
set_option maxHeartbeats 4000000 in
theorem Zf_X7_better {X : e_X} (hC : e_C X cX7_better RX7 3 (some .int) 6 gN) (v1 : Int32) (I : e_I) (L : e_L) : Zo X (ph_iIL) (f_X7_better v1 I L) 0 [(0, .ref 0), (1, .int v1)] [] I L := by
  unfold f_X7_better
  refine zo_aload_n hC dX7_better_0 rfl 0 rfl ?_
  refine zo_aload_n hC dX7_better_1 rfl 0 rfl ?_
  refine zo_iconst (v := 1) hC (by decide) dX7_better_2 ?_
  refine zo_iload_n hC dX7_better_3 rfl 1 rfl ?_
  refine zo_iconst (v := 5) hC (by decide) dX7_better_4 ?_
  refine zo_callV_i hC (ci := 7) [.int 1, .int v1, .int 5] [.ref 0] me_X7_troubleOfDepth mlX7_252 im_X7_troubleOfDepth se_X7_troubleOfDepth rfl (by decide) at_0 (fun p hp => T_X7_troubleOfDepth 1 v1 5 I L p hp) (by decide) rfl (Nat.le_of_ble_eq_true rfl) dX7_better_5 rfl (fun r_1 => ?_)
  refine zo_callV_iI hC (ci := 7) [.int r_1] [] me_X7_refused mlX7_70 im_X7_refused se_X7_refused rfl (by decide) at_0 (fun p hp => T_X7_refused r_1 I L p hp) (by decide) rfl (Nat.le_of_ble_eq_true rfl) dX7_better_8 rfl (fun r_2 I_3 => ?_)
  refine zo_if_eq (tgt := 16) hC dX7_better_11 (by decide) (fun c_4 => ?_) (fun c_4 => ?_)
  · refine zo_aload_n hC dX7_better_16 rfl 0 rfl ?_
    refine zo_getR hC (r := 9) fk7_33 (by decide) gr_0_4 at_0 dX7_better_17 ?_
    refine zo_aload_n hC dX7_better_20 rfl 0 rfl ?_
    refine zo_getR hC (r := 23) fk7_23 (by decide) gr_0_2 at_0 dX7_better_21 ?_
    refine zo_callV_vI hC (ci := 4) [.ref 23] [] me_X4_keep mlX7_315 im_X4_keep se_X4_keep rfl (by decide) at_9 (fun p hp => T_X4_keep 23 isG_23 I_3 L p hp) (by decide) rfl (Nat.le_of_ble_eq_true rfl) dX7_better_24 rfl (fun I_5 => ?_)
    refine zo_iconst (v := 0) hC (by decide) dX7_better_27 ?_
    refine zo_istore_n (lv' := [(2, .int 0), (0, .ref 0), (1, .int v1)]) hC dX7_better_28 rfl (by decide) rfl ?_
    refine zo_sub [1, 2, 0] (lv' := [(0, .ref 0), (1, .int v1), (2, .int 0)]) rfl ?_
    refine Zf_X7_better_29 hC v1 _ (fun v2_6 I_7 L_8 => ?_) e_FU 0 I_5 L
    · refine zo_iload_n hC dX7_better_60 rfl 0 rfl ?_
      exact zo_iret hC rfl dX7_better_61
  · refine zo_iconst (v := (-1)) hC (by decide) dX7_better_14 ?_
    exact zo_iret hC rfl dX7_better_15

theorem T_X7_better (v1 : Int32) (I : e_I) (L : e_L) (p : Int32 × e_I × e_L) (hp : f_X7_better v1 I L = some p) : Mt yX7_better cX7_better 3 (some .int) 6 gN [.ref 0, .int v1] I L ((ph_iIL) p) := zo_enter hp (by decide) (Nat.le_of_ble_eq_true rfl) (fun X hC => Zf_X7_better hC v1 I L)
def f_X7_troubleOfShift_25 (I : e_I) : Option (Int32) :=
  some 1
set_option maxRecDepth 100000 in
set_option maxHeartbeats 4000000 in
theorem Zf_X7_troubleOfShift_25 {X : e_X} (hC : e_C X cX7_troubleOfShift RX7 5 (some .int) 2 gN) (I : e_I) (L : e_L) : Zo X (ph_i I L) (f_X7_troubleOfShift_25 I) 25 [] [] I L := by
  unfold f_X7_troubleOfShift_25
  refine zo_iconst (v := 1) hC (by decide) dX7_troubleOfShift_25 ?_
  exact zo_iret hC rfl dX7_troubleOfShift_26

def f_X7_troubleOfShift_64 (I : e_I) (s0 : Int32) : Option (Int32) :=
  some s0
set_option maxRecDepth 100000 in
set_option maxHeartbeats 4000000 in
theorem Zf_X7_troubleOfShift_64 {X : e_X} (hC : e_C X cX7_troubleOfShift RX7 5 (some .int) 2 gN) (I : e_I) (L : e_L) (s0 : Int32) : Zo X (ph_i I L) (f_X7_troubleOfShift_64 I s0) 64 [] [.int s0] I L := by
  unfold f_X7_troubleOfShift_64
  exact zo_iret hC rfl dX7_troubleOfShift_64

def f_X7_troubleOfShift_59 (I : e_I) : Option (Int32) :=
  f_X7_troubleOfShift_64 I 5
set_option maxRecDepth 100000 in
set_option maxHeartbeats 4000000 in
theorem Zf_X7_troubleOfShift_59 {X : e_X} (hC : e_C X cX7_troubleOfShift RX7 5 (some .int) 2 gN) (I : e_I) (L : e_L) : Zo X (ph_i I L) (f_X7_troubleOfShift_59 I) 59 [] [] I L := by
  unfold f_X7_troubleOfShift_59
  refine zo_iconst (v := 5) hC (by decide) dX7_troubleOfShift_59 ?_
  refine zo_goto (tgt := 64) hC dX7_troubleOfShift_60 (by decide) ?_
  exact Zf_X7_troubleOfShift_64 hC I L 5

def f_X7_troubleOfShift (v1 : Int32) (v2 : Int32) (v3 : Int32) (v4 : Int32) (I : e_I) : Option (Int32) :=
  e_b1 (f_X0_hasBatter 23 v1 I) (fun (r_1 : Int32) =>
  if r_1 = 0 then (
    f_X7_troubleOfShift_25 I )
  else (
    e_b1 (f_X7_isHit v2) (fun (r_3 : Int32) =>
    if r_3 = 0 then (
      f_X7_troubleOfShift_25 I )
    else (
      e_b1 (f_X7_isHit v3) (fun (r_5 : Int32) =>
      if r_5 ≠ 0 then (
        e_b1 (f_X7_within v4 1 20) (fun (r_7 : Int32) =>
        if r_7 ≠ 0 then (
          if v2 = v3 then (
            f_X7_troubleOfShift_59 I )
          else (
            e_b1 (f_X0_chanceOf 23 v1 v2 I) (fun (r_10 : Int32) =>
            if r_10 ≥ v4 then (
              f_X7_troubleOfShift_64 I 0)
            else (
              f_X7_troubleOfShift_59 I ))))
        else (
          some 2)))
      else (
        f_X7_troubleOfShift_25 I ))))))
set_option maxRecDepth 100000 in
set_option maxHeartbeats 4000000 in
theorem Zf_X7_troubleOfShift {X : e_X} (hC : e_C X cX7_troubleOfShift RX7 5 (some .int) 2 gN) (v1 : Int32) (v2 : Int32) (v3 : Int32) (v4 : Int32) (I : e_I) (L : e_L) : Zo X (ph_i I L) (f_X7_troubleOfShift v1 v2 v3 v4 I) 0 [(0, .ref 0), (1, .int v1), (2, .int v2), (3, .int v3), (4, .int v4)] [] I L := by
  unfold f_X7_troubleOfShift
  refine zo_aload_n hC dX7_troubleOfShift_0 rfl 0 rfl ?_
  refine zo_getR hC (r := 23) fk7_23 (by decide) gr_0_2 at_0 dX7_troubleOfShift_1 ?_
  refine zo_iload_n hC dX7_troubleOfShift_4 rfl 1 rfl ?_
  refine zo_callV_i hC (ci := 0) [.int v1] [] me_X0_hasBatter mlX7_142 im_X0_hasBatter se_X0_hasBatter rfl (by decide) at_23 (fun p hp => T_X0_hasBatter 23 isG_23 v1 I L p hp) (by decide) rfl (Nat.le_of_ble_eq_true rfl) dX7_troubleOfShift_5 rfl (fun r_1 => ?_)
  refine zo_if_eq (tgt := 25) hC dX7_troubleOfShift_8 (by decide) (fun c_2 => ?_) (fun c_2 => ?_)
  · refine zo_sub [] (lv' := []) rfl ?_
    exact Zf_X7_troubleOfShift_25 hC I L 
  · refine zo_iload_n hC dX7_troubleOfShift_11 rfl 2 rfl ?_
    refine zo_callS_i hC [.int v2] [] me_X7_isHit mlX7_167 sm_X7_isHit (fun p hp => T_X7_isHit v2 I L p hp) (by decide) rfl (Nat.le_of_ble_eq_true rfl) dX7_troubleOfShift_12 rfl (fun r_3 => ?_)
    refine zo_if_eq (tgt := 25) hC dX7_troubleOfShift_15 (by decide) (fun c_4 => ?_) (fun c_4 => ?_)
    · refine zo_sub [] (lv' := []) rfl ?_
      exact Zf_X7_troubleOfShift_25 hC I L 
    · refine zo_iload_n hC dX7_troubleOfShift_18 rfl 3 rfl ?_
      refine zo_callS_i hC [.int v3] [] me_X7_isHit mlX7_167 sm_X7_isHit (fun p hp => T_X7_isHit v3 I L p hp) (by decide) rfl (Nat.le_of_ble_eq_true rfl) dX7_troubleOfShift_19 rfl (fun r_5 => ?_)
      refine zo_if_ne (tgt := 27) hC dX7_troubleOfShift_22 (by decide) (fun c_6 => ?_) (fun c_6 => ?_)
      · refine zo_iload hC dX7_troubleOfShift_27 4 rfl ?_
        refine zo_iconst (v := 1) hC (by decide) dX7_troubleOfShift_29 ?_
        refine zo_bipush (v := 20) hC (by decide) dX7_troubleOfShift_30 ?_
        refine zo_callS_i hC [.int v4, .int 1, .int 20] [] me_X7_within mlX7_66 sm_X7_within (fun p hp => T_X7_within v4 1 20 I L p hp) (by decide) rfl (Nat.le_of_ble_eq_true rfl) dX7_troubleOfShift_32 rfl (fun r_7 => ?_)
        refine zo_if_ne (tgt := 40) hC dX7_troubleOfShift_35 (by decide) (fun c_8 => ?_) (fun c_8 => ?_)
        · refine zo_iload_n hC dX7_troubleOfShift_40 rfl 2 rfl ?_
          refine zo_iload_n hC dX7_troubleOfShift_41 rfl 3 rfl ?_
          refine zo_icmp_eq (tgt := 59) hC dX7_troubleOfShift_42 (by decide) (fun c_9 => ?_) (fun c_9 => ?_)
          · refine zo_sub [] (lv' := []) rfl ?_
            exact Zf_X7_troubleOfShift_59 hC I L 
          · refine zo_aload_n hC dX7_troubleOfShift_45 rfl 0 rfl ?_
            refine zo_getR hC (r := 23) fk7_23 (by decide) gr_0_2 at_0 dX7_troubleOfShift_46 ?_
            refine zo_iload_n hC dX7_troubleOfShift_49 rfl 1 rfl ?_
            refine zo_iload_n hC dX7_troubleOfShift_50 rfl 2 rfl ?_
            refine zo_callV_i hC (ci := 0) [.int v1, .int v2] [] me_X0_chanceOf mlX7_154 im_X0_chanceOf se_X0_chanceOf rfl (by decide) at_23 (fun p hp => T_X0_chanceOf 23 isG_23 v1 v2 I L p hp) (by decide) rfl (Nat.le_of_ble_eq_true rfl) dX7_troubleOfShift_51 rfl (fun r_10 => ?_)
            refine zo_iload hC dX7_troubleOfShift_54 4 rfl ?_
            refine zo_icmp_ge (tgt := 63) hC dX7_troubleOfShift_56 (by decide) (fun c_11 => ?_) (fun c_11 => ?_)
            · refine zo_iconst (v := 0) hC (by decide) dX7_troubleOfShift_63 ?_
              refine zo_sub [] (lv' := []) rfl ?_
              exact Zf_X7_troubleOfShift_64 hC I L 0
            · refine zo_sub [] (lv' := []) rfl ?_
              exact Zf_X7_troubleOfShift_59 hC I L 
        · refine zo_iconst (v := 2) hC (by decide) dX7_troubleOfShift_38 ?_
          exact zo_iret hC rfl dX7_troubleOfShift_39
      · refine zo_sub [] (lv' := []) rfl ?_
        exact Zf_X7_troubleOfShift_25 hC I L 

theorem T_X7_troubleOfShift (v1 : Int32) (v2 : Int32) (v3 : Int32) (v4 : Int32) (I : e_I) (L : e_L) (p : Int32) (hp : f_X7_troubleOfShift v1 v2 v3 v4 I = some p) : Mt yX7_troubleOfShift cX7_troubleOfShift 5 (some .int) 2 gN [.ref 0, .int v1, .int v2, .int v3, .int v4] I L ((ph_i I L) p) := zo_enter hp (by decide) (Nat.le_of_ble_eq_true rfl) (fun X hC => Zf_X7_troubleOfShift hC v1 v2 v3 v4 I L)
def f_X0_putChance_32 (g : Nat) (I : e_I) : Option (e_I) :=
  some I
set_option maxRecDepth 100000 in
set_option maxHeartbeats 4000000 in
theorem Zf_X0_putChance_32 {X : e_X} (hC : e_C X cX0_putChance RX0 4 none 0 gN) (g : Nat) (hg : e_isG g) (L : e_L) (I : e_I) : Zo X (ph_vI L) (f_X0_putChance_32 g I) 32 [] [] I L := by
  unfold f_X0_putChance_32
  exact zo_vret hC rfl dX0_putChance_32

def f_X0_putChance (g : Nat) (v1 : Int32) (v2 : Int32) (v3 : Int32) (I : e_I) : Option (e_I) :=
  if v1 < 0 then (
    f_X0_putChance_32 g I)
  else (
    if v1 ≥ 9 then (
      f_X0_putChance_32 g I)
    else (
      if v2 < 0 then (
        f_X0_putChance_32 g I)
      else (
        if v2 ≥ 6 then (
          f_X0_putChance_32 g I)
        else (
          e_as (e_ix ((v1 * 6) + v2) 54 = true) (
          e_let (e_ui I (g + 1) ((v1 * 6) + v2).toNatClampNeg v3) (fun (I_6 : e_I) =>
          f_X0_putChance_32 g I_6))))))
set_option maxRecDepth 100000 in
set_option maxHeartbeats 4000000 in
theorem Zf_X0_putChance {X : e_X} (hC : e_C X cX0_putChance RX0 4 none 0 gN) (g : Nat) (hg : e_isG g) (v1 : Int32) (v2 : Int32) (v3 : Int32) (I : e_I) (L : e_L) : Zo X (ph_vI L) (f_X0_putChance g v1 v2 v3 I) 0 [(0, .ref g), (1, .int v1), (2, .int v2), (3, .int v3)] [] I L := by
  unfold f_X0_putChance
  refine zo_iload_n hC dX0_putChance_0 rfl 1 rfl ?_
  refine zo_if_lt (tgt := 32) hC dX0_putChance_1 (by decide) (fun c_1 => ?_) (fun c_1 => ?_)
  · refine zo_sub [] (lv' := []) rfl ?_
    exact Zf_X0_putChance_32 hC g hg L I
  · refine zo_iload_n hC dX0_putChance_4 rfl 1 rfl ?_
    refine zo_bipush (v := 9) hC (by decide) dX0_putChance_5 ?_
    refine zo_icmp_ge (tgt := 32) hC dX0_putChance_7 (by decide) (fun c_2 => ?_) (fun c_2 => ?_)
    · refine zo_sub [] (lv' := []) rfl ?_
      exact Zf_X0_putChance_32 hC g hg L I
    · refine zo_iload_n hC dX0_putChance_10 rfl 2 rfl ?_
      refine zo_if_lt (tgt := 32) hC dX0_putChance_11 (by decide) (fun c_3 => ?_) (fun c_3 => ?_)
      · refine zo_sub [] (lv' := []) rfl ?_
        exact Zf_X0_putChance_32 hC g hg L I
      · refine zo_iload_n hC dX0_putChance_14 rfl 2 rfl ?_
        refine zo_bipush (v := 6) hC (by decide) dX0_putChance_15 ?_
        refine zo_icmp_ge (tgt := 32) hC dX0_putChance_17 (by decide) (fun c_4 => ?_) (fun c_4 => ?_)
        · refine zo_sub [] (lv' := []) rfl ?_
          exact Zf_X0_putChance_32 hC g hg L I
        · refine zo_aload_n hC dX0_putChance_20 rfl 0 rfl ?_
          refine zo_getR hC (r := (g + 1)) fk0_9 (by decide) (grG8 hg) (atG hg) dX0_putChance_21 ?_
          refine zo_iload_n hC dX0_putChance_24 rfl 1 rfl ?_
          refine zo_bipush (v := 6) hC (by decide) dX0_putChance_25 ?_
          refine zo_imul hC dX0_putChance_27 ?_
          refine zo_iload_n hC dX0_putChance_28 rfl 2 rfl ?_
          refine zo_iadd hC dX0_putChance_29 ?_
          refine zo_iload_n hC dX0_putChance_30 rfl 3 rfl ?_
          refine zo_as (fun h_5 => ?_)
          refine zo_iast hC (arG1 hg) (e_ix_vp h_5) dX0_putChance_31 ?_
          refine zo_topI (fun I_6 => ?_)
          refine zo_sub [] (lv' := []) rfl ?_
          exact Zf_X0_putChance_32 hC g hg L I_6

theorem T_X0_putChance (g : Nat) (hg : e_isG g) (v1 : Int32) (v2 : Int32) (v3 : Int32) (I : e_I) (L : e_L) (p : e_I) (hp : f_X0_putChance g v1 v2 v3 I = some p) : Mt yX0_putChance cX0_putChance 4 none 0 gN [.ref g, .int v1, .int v2, .int v3] I L ((ph_vI L) p) := zo_enter hp (by decide) (Nat.le_of_ble_eq_true rfl) (fun X hC => Zf_X0_putChance hC g hg v1 v2 v3 I L)
def f_X7_shift (v1 : Int32) (v2 : Int32) (v3 : Int32) (v4 : Int32) (I : e_I) : Option (Int32 × e_I) :=
  e_b1 (f_X7_troubleOfShift v1 v2 v3 v4 I) (fun (r_1 : Int32) =>
  e_b2 (f_X7_refused r_1 I) (fun (r_2 : Int32) (I_3 : e_I) =>
  if r_2 = 0 then (
    e_b1 (f_X4_keep 23 I_3) (fun (I_5 : e_I) =>
    e_b1 (f_X0_chanceOf 23 v1 v2 I_5) (fun (r_6 : Int32) =>
    e_b1 (f_X0_putChance 23 v1 v2 (r_6 - v4) I_5) (fun (I_7 : e_I) =>
    e_b1 (f_X0_chanceOf 23 v1 v3 I_7) (fun (r_8 : Int32) =>
    e_b1 (f_X0_putChance 23 v1 v3 (r_8 + v4) I_7) (fun (I_9 : e_I) =>
    e_b1 (f_X0_chanceOf 23 v1 v3 I_9) (fun (r_10 : Int32) =>
    some (r_10, I_9))))))))
  else (
    some ((-1), I_3))))
set_option maxRecDepth 100000 in
set_option maxHeartbeats 4000000 in
theorem Zf_X7_shift {X : e_X} (hC : e_C X cX7_shift RX7 5 (some .int) 3 gN) (v1 : Int32) (v2 : Int32) (v3 : Int32) (v4 : Int32) (I : e_I) (L : e_L) : Zo X (ph_iI L) (f_X7_shift v1 v2 v3 v4 I) 0 [(0, .ref 0), (1, .int v1), (2, .int v2), (3, .int v3), (4, .int v4)] [] I L := by
  unfold f_X7_shift
  refine zo_aload_n hC dX7_shift_0 rfl 0 rfl ?_
  refine zo_aload_n hC dX7_shift_1 rfl 0 rfl ?_
  refine zo_iload_n hC dX7_shift_2 rfl 1 rfl ?_
  refine zo_iload_n hC dX7_shift_3 rfl 2 rfl ?_
  refine zo_iload_n hC dX7_shift_4 rfl 3 rfl ?_
  refine zo_iload hC dX7_shift_5 4 rfl ?_
  refine zo_callV_i hC (ci := 7) [.int v1, .int v2, .int v3, .int v4] [.ref 0] me_X7_troubleOfShift mlX7_333 im_X7_troubleOfShift se_X7_troubleOfShift rfl (by decide) at_0 (fun p hp => T_X7_troubleOfShift v1 v2 v3 v4 I L p hp) (by decide) rfl (Nat.le_of_ble_eq_true rfl) dX7_shift_7 rfl (fun r_1 => ?_)
  refine zo_callV_iI hC (ci := 7) [.int r_1] [] me_X7_refused mlX7_70 im_X7_refused se_X7_refused rfl (by decide) at_0 (fun p hp => T_X7_refused r_1 I L p hp) (by decide) rfl (Nat.le_of_ble_eq_true rfl) dX7_shift_10 rfl (fun r_2 I_3 => ?_)
  refine zo_if_eq (tgt := 18) hC dX7_shift_13 (by decide) (fun c_4 => ?_) (fun c_4 => ?_)
  · refine zo_aload_n hC dX7_shift_18 rfl 0 rfl ?_
    refine zo_getR hC (r := 9) fk7_33 (by decide) gr_0_4 at_0 dX7_shift_19 ?_
    refine zo_aload_n hC dX7_shift_22 rfl 0 rfl ?_
    refine zo_getR hC (r := 23) fk7_23 (by decide) gr_0_2 at_0 dX7_shift_23 ?_
    refine zo_callV_vI hC (ci := 4) [.ref 23] [] me_X4_keep mlX7_315 im_X4_keep se_X4_keep rfl (by decide) at_9 (fun p hp => T_X4_keep 23 isG_23 I_3 L p hp) (by decide) rfl (Nat.le_of_ble_eq_true rfl) dX7_shift_26 rfl (fun I_5 => ?_)
    refine zo_aload_n hC dX7_shift_29 rfl 0 rfl ?_
    refine zo_getR hC (r := 23) fk7_23 (by decide) gr_0_2 at_0 dX7_shift_30 ?_
    refine zo_iload_n hC dX7_shift_33 rfl 1 rfl ?_
    refine zo_iload_n hC dX7_shift_34 rfl 2 rfl ?_
    refine zo_aload_n hC dX7_shift_35 rfl 0 rfl ?_
    refine zo_getR hC (r := 23) fk7_23 (by decide) gr_0_2 at_0 dX7_shift_36 ?_
    refine zo_iload_n hC dX7_shift_39 rfl 1 rfl ?_
    refine zo_iload_n hC dX7_shift_40 rfl 2 rfl ?_
    refine zo_callV_i hC (ci := 0) [.int v1, .int v2] [.int v2, .int v1, .ref 23] me_X0_chanceOf mlX7_154 im_X0_chanceOf se_X0_chanceOf rfl (by decide) at_23 (fun p hp => T_X0_chanceOf 23 isG_23 v1 v2 I_5 L p hp) (by decide) rfl (Nat.le_of_ble_eq_true rfl) dX7_shift_41 rfl (fun r_6 => ?_)
    refine zo_iload hC dX7_shift_44 4 rfl ?_
    refine zo_isub hC dX7_shift_46 ?_
    refine zo_callV_vI hC (ci := 0) [.int v1, .int v2, .int (r_6 - v4)] [] me_X0_putChance mlX7_336 im_X0_putChance se_X0_putChance rfl (by decide) at_23 (fun p hp => T_X0_putChance 23 isG_23 v1 v2 (r_6 - v4) I_5 L p hp) (by decide) rfl (Nat.le_of_ble_eq_true rfl) dX7_shift_47 rfl (fun I_7 => ?_)
    refine zo_aload_n hC dX7_shift_50 rfl 0 rfl ?_
    refine zo_getR hC (r := 23) fk7_23 (by decide) gr_0_2 at_0 dX7_shift_51 ?_
    refine zo_iload_n hC dX7_shift_54 rfl 1 rfl ?_
    refine zo_iload_n hC dX7_shift_55 rfl 3 rfl ?_
    refine zo_aload_n hC dX7_shift_56 rfl 0 rfl ?_
    refine zo_getR hC (r := 23) fk7_23 (by decide) gr_0_2 at_0 dX7_shift_57 ?_
    refine zo_iload_n hC dX7_shift_60 rfl 1 rfl ?_
    refine zo_iload_n hC dX7_shift_61 rfl 3 rfl ?_
    refine zo_callV_i hC (ci := 0) [.int v1, .int v3] [.int v3, .int v1, .ref 23] me_X0_chanceOf mlX7_154 im_X0_chanceOf se_X0_chanceOf rfl (by decide) at_23 (fun p hp => T_X0_chanceOf 23 isG_23 v1 v3 I_7 L p hp) (by decide) rfl (Nat.le_of_ble_eq_true rfl) dX7_shift_62 rfl (fun r_8 => ?_)
    refine zo_iload hC dX7_shift_65 4 rfl ?_
    refine zo_iadd hC dX7_shift_67 ?_
    refine zo_callV_vI hC (ci := 0) [.int v1, .int v3, .int (r_8 + v4)] [] me_X0_putChance mlX7_336 im_X0_putChance se_X0_putChance rfl (by decide) at_23 (fun p hp => T_X0_putChance 23 isG_23 v1 v3 (r_8 + v4) I_7 L p hp) (by decide) rfl (Nat.le_of_ble_eq_true rfl) dX7_shift_68 rfl (fun I_9 => ?_)
    refine zo_aload_n hC dX7_shift_71 rfl 0 rfl ?_
    refine zo_getR hC (r := 23) fk7_23 (by decide) gr_0_2 at_0 dX7_shift_72 ?_
    refine zo_iload_n hC dX7_shift_75 rfl 1 rfl ?_
    refine zo_iload_n hC dX7_shift_76 rfl 3 rfl ?_
    refine zo_callV_i hC (ci := 0) [.int v1, .int v3] [] me_X0_chanceOf mlX7_154 im_X0_chanceOf se_X0_chanceOf rfl (by decide) at_23 (fun p hp => T_X0_chanceOf 23 isG_23 v1 v3 I_9 L p hp) (by decide) rfl (Nat.le_of_ble_eq_true rfl) dX7_shift_77 rfl (fun r_10 => ?_)
    exact zo_iret hC rfl dX7_shift_80
  · refine zo_iconst (v := (-1)) hC (by decide) dX7_shift_16 ?_
    exact zo_iret hC rfl dX7_shift_17

theorem T_X7_shift (v1 : Int32) (v2 : Int32) (v3 : Int32) (v4 : Int32) (I : e_I) (L : e_L) (p : Int32 × e_I) (hp : f_X7_shift v1 v2 v3 v4 I = some p) : Mt yX7_shift cX7_shift 5 (some .int) 3 gN [.ref 0, .int v1, .int v2, .int v3, .int v4] I L ((ph_iI L) p) := zo_enter hp (by decide) (Nat.le_of_ble_eq_true rfl) (fun X hC => Zf_X7_shift hC v1 v2 v3 v4 I L)
def f_X7_troubleOfBecome_16 (I : e_I) : Option (Int32) :=
  some 1
set_option maxRecDepth 100000 in
set_option maxHeartbeats 4000000 in
theorem Zf_X7_troubleOfBecome_16 {X : e_X} (hC : e_C X cX7_troubleOfBecome RX7 3 (some .int) 2 gN) (I : e_I) (L : e_L) : Zo X (ph_i I L) (f_X7_troubleOfBecome_16 I) 16 [] [] I L := by
  unfold f_X7_troubleOfBecome_16
  refine zo_iconst (v := 1) hC (by decide) dX7_troubleOfBecome_16 ?_
  exact zo_iret hC rfl dX7_troubleOfBecome_17

def f_X7_troubleOfBecome_31 (I : e_I) (s0 : Int32) : Option (Int32) :=
  some s0
set_option maxRecDepth 100000 in
set_option maxHeartbeats 4000000 in
theorem Zf_X7_troubleOfBecome_31 {X : e_X} (hC : e_C X cX7_troubleOfBecome RX7 3 (some .int) 2 gN) (I : e_I) (L : e_L) (s0 : Int32) : Zo X (ph_i I L) (f_X7_troubleOfBecome_31 I s0) 31 [] [.int s0] I L := by
  unfold f_X7_troubleOfBecome_31
  exact zo_iret hC rfl dX7_troubleOfBecome_31

def f_X7_troubleOfBecome (v1 : Int32) (v2 : Int32) (I : e_I) : Option (Int32) :=
  e_b1 (f_X7_hasText I) (fun (r_1 : Int32) =>
  if r_1 = 0 then (
    f_X7_troubleOfBecome_16 I )
  else (
    e_b1 (f_X7_within v1 0 4) (fun (r_3 : Int32) =>
    if r_3 ≠ 0 then (
      e_b1 (f_X7_isRule v1 v2) (fun (r_5 : Int32) =>
      if r_5 = 0 then (
        f_X7_troubleOfBecome_31 I 2)
      else (
        f_X7_troubleOfBecome_31 I 0)))
    else (
      f_X7_troubleOfBecome_16 I ))))
set_option maxRecDepth 100000 in
set_option maxHeartbeats 4000000 in
theorem Zf_X7_troubleOfBecome {X : e_X} (hC : e_C X cX7_troubleOfBecome RX7 3 (some .int) 2 gN) (v1 : Int32) (v2 : Int32) (I : e_I) (L : e_L) : Zo X (ph_i I L) (f_X7_troubleOfBecome v1 v2 I) 0 [(0, .ref 0), (1, .int v1), (2, .int v2)] [] I L := by
  unfold f_X7_troubleOfBecome
  refine zo_aload_n hC dX7_troubleOfBecome_0 rfl 0 rfl ?_
  refine zo_callV_i hC (ci := 7) [] [] me_X7_hasText mlX7_110 im_X7_hasText se_X7_hasText rfl (by decide) at_0 (fun p hp => T_X7_hasText I L p hp) (by decide) rfl (Nat.le_of_ble_eq_true rfl) dX7_troubleOfBecome_1 rfl (fun r_1 => ?_)
  refine zo_if_eq (tgt := 16) hC dX7_troubleOfBecome_4 (by decide) (fun c_2 => ?_) (fun c_2 => ?_)
  · refine zo_sub [] (lv' := []) rfl ?_
    exact Zf_X7_troubleOfBecome_16 hC I L 
  · refine zo_iload_n hC dX7_troubleOfBecome_7 rfl 1 rfl ?_
    refine zo_iconst (v := 0) hC (by decide) dX7_troubleOfBecome_8 ?_
    refine zo_iconst (v := 4) hC (by decide) dX7_troubleOfBecome_9 ?_
    refine zo_callS_i hC [.int v1, .int 0, .int 4] [] me_X7_within mlX7_66 sm_X7_within (fun p hp => T_X7_within v1 0 4 I L p hp) (by decide) rfl (Nat.le_of_ble_eq_true rfl) dX7_troubleOfBecome_10 rfl (fun r_3 => ?_)
    refine zo_if_ne (tgt := 18) hC dX7_troubleOfBecome_13 (by decide) (fun c_4 => ?_) (fun c_4 => ?_)
    · refine zo_iload_n hC dX7_troubleOfBecome_18 rfl 1 rfl ?_
      refine zo_iload_n hC dX7_troubleOfBecome_19 rfl 2 rfl ?_
      refine zo_callS_i hC [.int v1, .int v2] [] me_X7_isRule mlX7_346 sm_X7_isRule (fun p hp => T_X7_isRule v1 v2 I L p hp) (by decide) rfl (Nat.le_of_ble_eq_true rfl) dX7_troubleOfBecome_20 rfl (fun r_5 => ?_)
      refine zo_if_eq (tgt := 30) hC dX7_troubleOfBecome_23 (by decide) (fun c_6 => ?_) (fun c_6 => ?_)
      · refine zo_iconst (v := 2) hC (by decide) dX7_troubleOfBecome_30 ?_
        refine zo_sub [] (lv' := []) rfl ?_
        exact Zf_X7_troubleOfBecome_31 hC I L 2
      · refine zo_iconst (v := 0) hC (by decide) dX7_troubleOfBecome_26 ?_
        refine zo_goto (tgt := 31) hC dX7_troubleOfBecome_27 (by decide) ?_
        refine zo_sub [] (lv' := []) rfl ?_
        exact Zf_X7_troubleOfBecome_31 hC I L 0
    · refine zo_sub [] (lv' := []) rfl ?_
      exact Zf_X7_troubleOfBecome_16 hC I L 

theorem T_X7_troubleOfBecome (v1 : Int32) (v2 : Int32) (I : e_I) (L : e_L) (p : Int32) (hp : f_X7_troubleOfBecome v1 v2 I = some p) : Mt yX7_troubleOfBecome cX7_troubleOfBecome 3 (some .int) 2 gN [.ref 0, .int v1, .int v2] I L ((ph_i I L) p) := zo_enter hp (by decide) (Nat.le_of_ble_eq_true rfl) (fun X hC => Zf_X7_troubleOfBecome hC v1 v2 I L)
def f_X0_putRule_16 (g : Nat) (I : e_I) : Option (e_I) :=
  some I
set_option maxRecDepth 100000 in
set_option maxHeartbeats 4000000 in
theorem Zf_X0_putRule_16 {X : e_X} (hC : e_C X cX0_putRule RX0 3 none 1 gN) (g : Nat) (hg : e_isG g) (L : e_L) (I : e_I) : Zo X (ph_vI L) (f_X0_putRule_16 g I) 16 [] [] I L := by
  unfold f_X0_putRule_16
  exact zo_vret hC rfl dX0_putRule_16

def f_X0_putRule (g : Nat) (v1 : Int32) (v2 : Int32) (I : e_I) : Option (e_I) :=
  e_b1 (f_X7_within v1 0 4) (fun (r_1 : Int32) =>
  if r_1 = 0 then (
    f_X0_putRule_16 g I)
  else (
    e_as (e_ix v1 5 = true) (
    e_let (e_ui I (g + 2) v1.toNatClampNeg v2) (fun (I_4 : e_I) =>
    f_X0_putRule_16 g I_4))))
set_option maxRecDepth 100000 in
set_option maxHeartbeats 4000000 in
theorem Zf_X0_putRule {X : e_X} (hC : e_C X cX0_putRule RX0 3 none 1 gN) (g : Nat) (hg : e_isG g) (v1 : Int32) (v2 : Int32) (I : e_I) (L : e_L) : Zo X (ph_vI L) (f_X0_putRule g v1 v2 I) 0 [(0, .ref g), (1, .int v1), (2, .int v2)] [] I L := by
  unfold f_X0_putRule
  refine zo_iload_n hC dX0_putRule_0 rfl 1 rfl ?_
  refine zo_iconst (v := 0) hC (by decide) dX0_putRule_1 ?_
  refine zo_iconst (v := 4) hC (by decide) dX0_putRule_2 ?_
  refine zo_callSN_i hC [.int v1, .int 0, .int 4] [] me_X7_within (List.mem_of_getElem? (i := 5) rfl) sm_X7_within (fun p hp => T_X7_within v1 0 4 I L p hp) (by decide) rfl (Nat.le_of_ble_eq_true rfl) dX0_putRule_3 rfl (fun r_1 => ?_)
  refine zo_if_eq (tgt := 16) hC dX0_putRule_6 (by decide) (fun c_2 => ?_) (fun c_2 => ?_)
  · refine zo_sub [] (lv' := []) rfl ?_
    exact Zf_X0_putRule_16 hC g hg L I
  · refine zo_aload_n hC dX0_putRule_9 rfl 0 rfl ?_
    refine zo_getR hC (r := (g + 2)) fk0_15 (by decide) (grG9 hg) (atG hg) dX0_putRule_10 ?_
    refine zo_iload_n hC dX0_putRule_13 rfl 1 rfl ?_
    refine zo_iload_n hC dX0_putRule_14 rfl 2 rfl ?_
    refine zo_as (fun h_3 => ?_)
    refine zo_iast hC (arG2 hg) (e_ix_vp h_3) dX0_putRule_15 ?_
    refine zo_topI (fun I_4 => ?_)
    refine zo_sub [] (lv' := []) rfl ?_
    exact Zf_X0_putRule_16 hC g hg L I_4

theorem T_X0_putRule (g : Nat) (hg : e_isG g) (v1 : Int32) (v2 : Int32) (I : e_I) (L : e_L) (p : e_I) (hp : f_X0_putRule g v1 v2 I = some p) : Mt yX0_putRule cX0_putRule 3 none 1 gN [.ref g, .int v1, .int v2] I L ((ph_vI L) p) := zo_enter hp (by decide) (Nat.le_of_ble_eq_true rfl) (fun X hC => Zf_X0_putRule hC g hg v1 v2 I L)
def f_X7_become (v1 : Int32) (v2 : Int32) (I : e_I) : Option (Int32 × e_I) :=
  e_b1 (f_X7_troubleOfBecome v1 v2 I) (fun (r_1 : Int32) =>
  e_b2 (f_X7_refused r_1 I) (fun (r_2 : Int32) (I_3 : e_I) =>
  if r_2 = 0 then (
    e_b1 (f_X4_keep 23 I_3) (fun (I_5 : e_I) =>
    e_b1 (f_X0_ruled 23 v1 I_5) (fun (r_6 : Int32) =>
    e_b1 (f_X0_putRule 23 v1 v2 I_5) (fun (I_7 : e_I) =>
    e_b1 (f_X7_fitMoves I_7) (fun (I_8 : e_I) =>
    some (r_6, I_8))))))
  else (
    some ((-1), I_3))))
set_option maxRecDepth 100000 in
set_option maxHeartbeats 4000000 in
theorem Zf_X7_become {X : e_X} (hC : e_C X cX7_become RX7 4 (some .int) 5 gN) (v1 : Int32) (v2 : Int32) (I : e_I) (L : e_L) : Zo X (ph_iI L) (f_X7_become v1 v2 I) 0 [(0, .ref 0), (1, .int v1), (2, .int v2)] [] I L := by
  unfold f_X7_become
  refine zo_aload_n hC dX7_become_0 rfl 0 rfl ?_
  refine zo_aload_n hC dX7_become_1 rfl 0 rfl ?_
  refine zo_iload_n hC dX7_become_2 rfl 1 rfl ?_
  refine zo_iload_n hC dX7_become_3 rfl 2 rfl ?_
  refine zo_callV_i hC (ci := 7) [.int v1, .int v2] [.ref 0] me_X7_troubleOfBecome mlX7_340 im_X7_troubleOfBecome se_X7_troubleOfBecome rfl (by decide) at_0 (fun p hp => T_X7_troubleOfBecome v1 v2 I L p hp) (by decide) rfl (Nat.le_of_ble_eq_true rfl) dX7_become_4 rfl (fun r_1 => ?_)
  refine zo_callV_iI hC (ci := 7) [.int r_1] [] me_X7_refused mlX7_70 im_X7_refused se_X7_refused rfl (by decide) at_0 (fun p hp => T_X7_refused r_1 I L p hp) (by decide) rfl (Nat.le_of_ble_eq_true rfl) dX7_become_7 rfl (fun r_2 I_3 => ?_)
  refine zo_if_eq (tgt := 15) hC dX7_become_10 (by decide) (fun c_4 => ?_) (fun c_4 => ?_)
  · refine zo_aload_n hC dX7_become_15 rfl 0 rfl ?_
    refine zo_getR hC (r := 9) fk7_33 (by decide) gr_0_4 at_0 dX7_become_16 ?_
    refine zo_aload_n hC dX7_become_19 rfl 0 rfl ?_
    refine zo_getR hC (r := 23) fk7_23 (by decide) gr_0_2 at_0 dX7_become_20 ?_
    refine zo_callV_vI hC (ci := 4) [.ref 23] [] me_X4_keep mlX7_315 im_X4_keep se_X4_keep rfl (by decide) at_9 (fun p hp => T_X4_keep 23 isG_23 I_3 L p hp) (by decide) rfl (Nat.le_of_ble_eq_true rfl) dX7_become_23 rfl (fun I_5 => ?_)
    refine zo_aload_n hC dX7_become_26 rfl 0 rfl ?_
    refine zo_getR hC (r := 23) fk7_23 (by decide) gr_0_2 at_0 dX7_become_27 ?_
    refine zo_iload_n hC dX7_become_30 rfl 1 rfl ?_
    refine zo_callV_i hC (ci := 0) [.int v1] [] me_X0_ruled mlX7_139 im_X0_ruled se_X0_ruled rfl (by decide) at_23 (fun p hp => T_X0_ruled 23 isG_23 v1 I_5 L p hp) (by decide) rfl (Nat.le_of_ble_eq_true rfl) dX7_become_31 rfl (fun r_6 => ?_)
    refine zo_istore_n (lv' := [(3, .int r_6), (0, .ref 0), (1, .int v1), (2, .int v2)]) hC dX7_become_34 rfl (by decide) rfl ?_
    refine zo_aload_n hC dX7_become_35 rfl 1 rfl ?_
    refine zo_getR hC (r := 23) fk7_23 (by decide) gr_0_2 at_0 dX7_become_36 ?_
    refine zo_iload_n hC dX7_become_39 rfl 2 rfl ?_
    refine zo_iload_n hC dX7_become_40 rfl 3 rfl ?_
    refine zo_callV_vI hC (ci := 0) [.int v1, .int v2] [] me_X0_putRule mlX7_343 im_X0_putRule se_X0_putRule rfl (by decide) at_23 (fun p hp => T_X0_putRule 23 isG_23 v1 v2 I_5 L p hp) (by decide) rfl (Nat.le_of_ble_eq_true rfl) dX7_become_41 rfl (fun I_7 => ?_)
    refine zo_aload_n hC dX7_become_44 rfl 1 rfl ?_
    refine zo_callV_vI hC (ci := 7) [] [] me_X7_fitMoves mlX7_101 im_X7_fitMoves se_X7_fitMoves rfl (by decide) at_0 (fun p hp => T_X7_fitMoves I_7 L p hp) (by decide) rfl (Nat.le_of_ble_eq_true rfl) dX7_become_45 rfl (fun I_8 => ?_)
    refine zo_iload_n hC dX7_become_48 rfl 0 rfl ?_
    exact zo_iret hC rfl dX7_become_49
  · refine zo_iconst (v := (-1)) hC (by decide) dX7_become_13 ?_
    exact zo_iret hC rfl dX7_become_14

theorem T_X7_become (v1 : Int32) (v2 : Int32) (I : e_I) (L : e_L) (p : Int32 × e_I) (hp : f_X7_become v1 v2 I = some p) : Mt yX7_become cX7_become 4 (some .int) 5 gN [.ref 0, .int v1, .int v2] I L ((ph_iI L) p) := zo_enter hp (by decide) (Nat.le_of_ble_eq_true rfl) (fun X hC => Zf_X7_become hC v1 v2 I L)
def f_X4_bringBack_59 (g1 : Nat) (I : e_I) : Option (e_I) :=
  some I
set_option maxRecDepth 100000 in
set_option maxHeartbeats 4000000 in
theorem Zf_X4_bringBack_59 {X : e_X} (hC : e_C X cX4_bringBack RX4 3 none 1 gN) (g1 : Nat) (hg1 : e_isG g1) (L : e_L) (I : e_I) : Zo X (ph_vI L) (f_X4_bringBack_59 g1 I) 59 [] [] I L := by
  unfold f_X4_bringBack_59
  exact zo_vret hC rfl dX4_bringBack_59

def f_X4_bringBack_27 (g1 : Nat) (s0 : Int32) (I : e_I) : Option (e_I) :=
  e_let (e_ui I 9 1 s0) (fun (I_1 : e_I) =>
  e_let (e_ui I_1 9 2 ((I_1 9 2) - 1)) (fun (I_2 : e_I) =>
  e_as (e_ix (I_2 9 1) 10 = true) (
  e_b1 (f_X0_copyFrom g1 (eK (I_2 9 1)) I_2) (fun (I_4 : e_I) =>
  f_X4_bringBack_59 g1 I_4))))
set_option maxRecDepth 100000 in
set_option maxHeartbeats 4000000 in
theorem Zf_X4_bringBack_27 {X : e_X} (hC : e_C X cX4_bringBack RX4 3 none 1 gN) (g1 : Nat) (hg1 : e_isG g1) (L : e_L) (s0 : Int32) (I : e_I) : Zo X (ph_vI L) (f_X4_bringBack_27 g1 s0 I) 27 [(0, .ref 9), (1, .ref g1)] [.int s0, .ref 9] I L := by
  unfold f_X4_bringBack_27
  refine zo_putI hC fk4_22 ff4_1 at_9 dX4_bringBack_27 ?_
  refine zo_topI (fun I_1 => ?_)
  refine zo_aload_n hC dX4_bringBack_30 rfl 0 rfl ?_
  refine zo_dup hC rfl dX4_bringBack_31 ?_
  refine zo_getI hC fk4_18 at_9 dX4_bringBack_32 ?_
  refine zo_iconst (v := 1) hC (by decide) dX4_bringBack_35 ?_
  refine zo_isub hC dX4_bringBack_36 ?_
  refine zo_putI hC fk4_18 ff4_2 at_9 dX4_bringBack_37 ?_
  refine zo_topI (fun I_2 => ?_)
  refine zo_aload_n hC dX4_bringBack_40 rfl 0 rfl ?_
  refine zo_getR hC (r := 10) fk4_11 (by decide) gr_9_0 at_9 dX4_bringBack_41 ?_
  refine zo_aload_n hC dX4_bringBack_44 rfl 0 rfl ?_
  refine zo_getI hC fk4_22 at_9 dX4_bringBack_45 ?_
  refine zo_as (fun h_3 => ?_)
  refine zo_aald hC ar_10 (e_ix_vp h_3) (gR_eK (e_ix_vp h_3)) dX4_bringBack_48 ?_
  refine zo_astore_n (lv' := [(2, .ref (eK (I_2 9 1))), (0, .ref 9), (1, .ref g1)]) hC dX4_bringBack_49 rfl (by decide) rfl ?_
  refine zo_aload_n hC dX4_bringBack_50 rfl 0 rfl ?_
  refine zo_ifnull hC dX4_bringBack_51 ?_
  refine zo_aload_n hC dX4_bringBack_54 rfl 2 rfl ?_
  refine zo_aload_n hC dX4_bringBack_55 rfl 0 rfl ?_
  refine zo_callV_vI hC (ci := 0) [.ref (eK (I_2 9 1))] [] me_X0_copyFrom mlX4_25 im_X0_copyFrom se_X0_copyFrom rfl (by decide) (atG hg1) (fun p hp => T_X0_copyFrom g1 hg1 (eK (I_2 9 1)) (isG_eK _) I_2 L p hp) (by decide) rfl (Nat.le_of_ble_eq_true rfl) dX4_bringBack_56 rfl (fun I_4 => ?_)
  refine zo_sub [] (lv' := []) rfl ?_
  exact Zf_X4_bringBack_59 hC g1 hg1 L I_4

def f_X4_bringBack (g1 : Nat) (I : e_I) : Option (e_I) :=
  if (I 9 2) ≠ 0 then (
    if (I 9 1) ≤ 0 then (
      f_X4_bringBack_27 g1 9 I)
    else (
      f_X4_bringBack_27 g1 ((I 9 1) - 1) I))
  else (
    some I)
set_option maxRecDepth 100000 in
set_option maxHeartbeats 4000000 in
theorem Zf_X4_bringBack {X : e_X} (hC : e_C X cX4_bringBack RX4 3 none 1 gN) (g1 : Nat) (hg1 : e_isG g1) (I : e_I) (L : e_L) : Zo X (ph_vI L) (f_X4_bringBack g1 I) 0 [(0, .ref 9), (1, .ref g1)] [] I L := by
  unfold f_X4_bringBack
  refine zo_aload_n hC dX4_bringBack_0 rfl 0 rfl ?_
  refine zo_getI hC fk4_18 at_9 dX4_bringBack_1 ?_
  refine zo_if_ne (tgt := 8) hC dX4_bringBack_4 (by decide) (fun c_1 => ?_) (fun c_1 => ?_)
  · refine zo_aload_n hC dX4_bringBack_8 rfl 0 rfl ?_
    refine zo_aload_n hC dX4_bringBack_9 rfl 0 rfl ?_
    refine zo_getI hC fk4_22 at_9 dX4_bringBack_10 ?_
    refine zo_if_le (tgt := 25) hC dX4_bringBack_13 (by decide) (fun c_2 => ?_) (fun c_2 => ?_)
    · refine zo_bipush (v := 9) hC (by decide) dX4_bringBack_25 ?_
      exact Zf_X4_bringBack_27 hC g1 hg1 L 9 I
    · refine zo_aload_n hC dX4_bringBack_16 rfl 0 rfl ?_
      refine zo_getI hC fk4_22 at_9 dX4_bringBack_17 ?_
      refine zo_iconst (v := 1) hC (by decide) dX4_bringBack_20 ?_
      refine zo_isub hC dX4_bringBack_21 ?_
      refine zo_goto (tgt := 27) hC dX4_bringBack_22 (by decide) ?_
      exact Zf_X4_bringBack_27 hC g1 hg1 L ((I 9 1) - 1) I
  · exact zo_vret hC rfl dX4_bringBack_7

theorem T_X4_bringBack (g1 : Nat) (hg1 : e_isG g1) (I : e_I) (L : e_L) (p : e_I) (hp : f_X4_bringBack g1 I = some p) : Mt yX4_bringBack cX4_bringBack 3 none 1 gN [.ref 9, .ref g1] I L ((ph_vI L) p) := zo_enter hp (by decide) (Nat.le_of_ble_eq_true rfl) (fun X hC => Zf_X4_bringBack hC g1 hg1 I L)
def f_X7_undo_27 (s0 : Int32) (I : e_I) : Option (Int32 × e_I) :=
  e_b2 (f_X7_refused s0 I) (fun (r_1 : Int32) (I_2 : e_I) =>
  if r_1 = 0 then (
    e_b1 (f_X4_bringBack 23 I_2) (fun (I_4 : e_I) =>
    e_b1 (f_X7_fitMoves I_4) (fun (I_5 : e_I) =>
    some ((I_5 9 2), I_5))))
  else (
    some ((-1), I_2)))
set_option maxRecDepth 100000 in
set_option maxHeartbeats 4000000 in
theorem Zf_X7_undo_27 {X : e_X} (hC : e_C X cX7_undo RX7 1 (some .int) 5 gN) (L : e_L) (s0 : Int32) (I : e_I) : Zo X (ph_iI L) (f_X7_undo_27 s0 I) 27 [(0, .ref 0)] [.int s0, .ref 0] I L := by
  unfold f_X7_undo_27
  refine zo_callV_iI hC (ci := 7) [.int s0] [] me_X7_refused mlX7_70 im_X7_refused se_X7_refused rfl (by decide) at_0 (fun p hp => T_X7_refused s0 I L p hp) (by decide) rfl (Nat.le_of_ble_eq_true rfl) dX7_undo_27 rfl (fun r_1 I_2 => ?_)
  refine zo_if_eq (tgt := 35) hC dX7_undo_30 (by decide) (fun c_3 => ?_) (fun c_3 => ?_)
  · refine zo_aload_n hC dX7_undo_35 rfl 0 rfl ?_
    refine zo_getR hC (r := 9) fk7_33 (by decide) gr_0_4 at_0 dX7_undo_36 ?_
    refine zo_aload_n hC dX7_undo_39 rfl 0 rfl ?_
    refine zo_getR hC (r := 23) fk7_23 (by decide) gr_0_2 at_0 dX7_undo_40 ?_
    refine zo_callV_vI hC (ci := 4) [.ref 23] [] me_X4_bringBack mlX7_349 im_X4_bringBack se_X4_bringBack rfl (by decide) at_9 (fun p hp => T_X4_bringBack 23 isG_23 I_2 L p hp) (by decide) rfl (Nat.le_of_ble_eq_true rfl) dX7_undo_43 rfl (fun I_4 => ?_)
    refine zo_aload_n hC dX7_undo_46 rfl 0 rfl ?_
    refine zo_callV_vI hC (ci := 7) [] [] me_X7_fitMoves mlX7_101 im_X7_fitMoves se_X7_fitMoves rfl (by decide) at_0 (fun p hp => T_X7_fitMoves I_4 L p hp) (by decide) rfl (Nat.le_of_ble_eq_true rfl) dX7_undo_47 rfl (fun I_5 => ?_)
    refine zo_aload_n hC dX7_undo_50 rfl 0 rfl ?_
    refine zo_getR hC (r := 9) fk7_33 (by decide) gr_0_4 at_0 dX7_undo_51 ?_
    refine zo_getI hC fk7_138 at_9 dX7_undo_54 ?_
    exact zo_iret hC rfl dX7_undo_57
  · refine zo_iconst (v := (-1)) hC (by decide) dX7_undo_33 ?_
    exact zo_iret hC rfl dX7_undo_34

def f_X7_undo (I : e_I) : Option (Int32 × e_I) :=
  e_b1 (f_X7_hasText I) (fun (r_1 : Int32) =>
  if r_1 ≠ 0 then (
    if (I 9 2) ≤ 0 then (
      f_X7_undo_27 5 I)
    else (
      f_X7_undo_27 0 I))
  else (
    f_X7_undo_27 1 I))
set_option maxRecDepth 100000 in
set_option maxHeartbeats 4000000 in
theorem Zf_X7_undo {X : e_X} (hC : e_C X cX7_undo RX7 1 (some .int) 5 gN) (I : e_I) (L : e_L) : Zo X (ph_iI L) (f_X7_undo I) 0 [(0, .ref 0)] [] I L := by
  unfold f_X7_undo
  refine zo_aload_n hC dX7_undo_0 rfl 0 rfl ?_
  refine zo_aload_n hC dX7_undo_1 rfl 0 rfl ?_
  refine zo_callV_i hC (ci := 7) [] [.ref 0] me_X7_hasText mlX7_110 im_X7_hasText se_X7_hasText rfl (by decide) at_0 (fun p hp => T_X7_hasText I L p hp) (by decide) rfl (Nat.le_of_ble_eq_true rfl) dX7_undo_2 rfl (fun r_1 => ?_)
  refine zo_if_ne (tgt := 12) hC dX7_undo_5 (by decide) (fun c_2 => ?_) (fun c_2 => ?_)
  · refine zo_aload_n hC dX7_undo_12 rfl 0 rfl ?_
    refine zo_getR hC (r := 9) fk7_33 (by decide) gr_0_4 at_0 dX7_undo_13 ?_
    refine zo_getI hC fk7_138 at_9 dX7_undo_16 ?_
    refine zo_if_le (tgt := 26) hC dX7_undo_19 (by decide) (fun c_3 => ?_) (fun c_3 => ?_)
    · refine zo_iconst (v := 5) hC (by decide) dX7_undo_26 ?_
      exact Zf_X7_undo_27 hC L 5 I
    · refine zo_iconst (v := 0) hC (by decide) dX7_undo_22 ?_
      refine zo_goto (tgt := 27) hC dX7_undo_23 (by decide) ?_
      exact Zf_X7_undo_27 hC L 0 I
  · refine zo_iconst (v := 1) hC (by decide) dX7_undo_8 ?_
    refine zo_goto (tgt := 27) hC dX7_undo_9 (by decide) ?_
    exact Zf_X7_undo_27 hC L 1 I

theorem T_X7_undo (I : e_I) (L : e_L) (p : Int32 × e_I) (hp : f_X7_undo I = some p) : Mt yX7_undo cX7_undo 1 (some .int) 5 gN [.ref 0] I L ((ph_iI L) p) := zo_enter hp (by decide) (Nat.le_of_ble_eq_true rfl) (fun X hC => Zf_X7_undo hC I L)
def f_X6_onlyWord_42 (s0 : Int32) (I : e_I) : Option (Int32 × e_I) :=
  some (s0, I)
set_option maxRecDepth 100000 in
set_option maxHeartbeats 4000000 in
theorem Zf_X6_onlyWord_42 {X : e_X} (hC : e_C X cX6_onlyWord RX6 3 (some .int) 3 gN) (L : e_L) (s0 : Int32) (I : e_I) : Zo X (ph_iI L) (f_X6_onlyWord_42 s0 I) 42 [] [.int s0] I L := by
  unfold f_X6_onlyWord_42
  exact zo_iret hC rfl dX6_onlyWord_42

def f_X6_onlyWord_24 (s0 : Int32) (I : e_I) : Option (Int32 × e_I) :=
  e_b1 (f_X6_step I) (fun (I_1 : e_I) =>
  if (I_1 1 11) ≠ 3 then (
    f_X6_onlyWord_42 (-1) I_1)
  else (
    f_X6_onlyWord_42 s0 I_1))
set_option maxRecDepth 100000 in
set_option maxHeartbeats 4000000 in
theorem Zf_X6_onlyWord_24 {X : e_X} (hC : e_C X cX6_onlyWord RX6 3 (some .int) 3 gN) (L : e_L) (s0 : Int32) (I : e_I) : Zo X (ph_iI L) (f_X6_onlyWord_24 s0 I) 24 [(0, .ref 1)] [.int s0] I L := by
  unfold f_X6_onlyWord_24
  refine zo_istore_n (lv' := [(2, .int s0), (0, .ref 1)]) hC dX6_onlyWord_24 rfl (by decide) rfl ?_
  refine zo_aload_n hC dX6_onlyWord_25 rfl 1 rfl ?_
  refine zo_callV_vI hC (ci := 6) [] [] me_X6_step mlX6_76 im_X6_step se_X6_step rfl (by decide) at_1 (fun p hp => T_X6_step I L p hp) (by decide) rfl (Nat.le_of_ble_eq_true rfl) dX6_onlyWord_26 rfl (fun I_1 => ?_)
  refine zo_aload_n hC dX6_onlyWord_29 rfl 1 rfl ?_
  refine zo_getI hC fk6_79 at_1 dX6_onlyWord_30 ?_
  refine zo_iconst (v := 3) hC (by decide) dX6_onlyWord_33 ?_
  refine zo_icmp_ne (tgt := 41) hC dX6_onlyWord_34 (by decide) (fun c_2 => ?_) (fun c_2 => ?_)
  · refine zo_iconst (v := (-1)) hC (by decide) dX6_onlyWord_41 ?_
    refine zo_sub [] (lv' := []) rfl ?_
    exact Zf_X6_onlyWord_42 hC L (-1) I_1
  · refine zo_iload_n hC dX6_onlyWord_37 rfl 0 rfl ?_
    refine zo_goto (tgt := 42) hC dX6_onlyWord_38 (by decide) ?_
    refine zo_sub [] (lv' := []) rfl ?_
    exact Zf_X6_onlyWord_42 hC L s0 I_1

def f_X6_onlyWord (v1 : Int32) (I : e_I) : Option (Int32 × e_I) :=
  e_b1 (f_X6_startAt v1 I) (fun (I_1 : e_I) =>
  e_b1 (f_X6_step I_1) (fun (I_2 : e_I) =>
  if (I_2 1 11) ≠ 0 then (
    f_X6_onlyWord_24 (-1) I_2)
  else (
    f_X6_onlyWord_24 (I_2 1 12) I_2)))
set_option maxRecDepth 100000 in
set_option maxHeartbeats 4000000 in
theorem Zf_X6_onlyWord {X : e_X} (hC : e_C X cX6_onlyWord RX6 3 (some .int) 3 gN) (v1 : Int32) (I : e_I) (L : e_L) : Zo X (ph_iI L) (f_X6_onlyWord v1 I) 0 [(0, .ref 1), (1, .int v1)] [] I L := by
  unfold f_X6_onlyWord
  refine zo_aload_n hC dX6_onlyWord_0 rfl 0 rfl ?_
  refine zo_iload_n hC dX6_onlyWord_1 rfl 1 rfl ?_
  refine zo_callV_vI hC (ci := 6) [.int v1] [] me_X6_startAt mlX6_52 im_X6_startAt se_X6_startAt rfl (by decide) at_1 (fun p hp => T_X6_startAt v1 I L p hp) (by decide) rfl (Nat.le_of_ble_eq_true rfl) dX6_onlyWord_2 rfl (fun I_1 => ?_)
  refine zo_aload_n hC dX6_onlyWord_5 rfl 0 rfl ?_
  refine zo_callV_vI hC (ci := 6) [] [] me_X6_step mlX6_76 im_X6_step se_X6_step rfl (by decide) at_1 (fun p hp => T_X6_step I_1 L p hp) (by decide) rfl (Nat.le_of_ble_eq_true rfl) dX6_onlyWord_6 rfl (fun I_2 => ?_)
  refine zo_aload_n hC dX6_onlyWord_9 rfl 0 rfl ?_
  refine zo_getI hC fk6_79 at_1 dX6_onlyWord_10 ?_
  refine zo_if_ne (tgt := 23) hC dX6_onlyWord_13 (by decide) (fun c_3 => ?_) (fun c_3 => ?_)
  · refine zo_iconst (v := (-1)) hC (by decide) dX6_onlyWord_23 ?_
    refine zo_sub [0] (lv' := [(0, .ref 1)]) rfl ?_
    exact Zf_X6_onlyWord_24 hC L (-1) I_2
  · refine zo_aload_n hC dX6_onlyWord_16 rfl 0 rfl ?_
    refine zo_getI hC fk6_82 at_1 dX6_onlyWord_17 ?_
    refine zo_goto (tgt := 24) hC dX6_onlyWord_20 (by decide) ?_
    refine zo_sub [0] (lv' := [(0, .ref 1)]) rfl ?_
    exact Zf_X6_onlyWord_24 hC L (I_2 1 12) I_2

theorem T_X6_onlyWord (v1 : Int32) (I : e_I) (L : e_L) (p : Int32 × e_I) (hp : f_X6_onlyWord v1 I = some p) : Mt yX6_onlyWord cX6_onlyWord 3 (some .int) 3 gN [.ref 1, .int v1] I L ((ph_iI L) p) := zo_enter hp (by decide) (Nat.le_of_ble_eq_true rfl) (fun X hC => Zf_X6_onlyWord hC v1 I L)
def f_X7_size (I : e_I) : Option (Int32) :=
  some (I 1 3)
set_option maxRecDepth 100000 in
set_option maxHeartbeats 4000000 in
theorem Zf_X7_size {X : e_X} (hC : e_C X cX7_size RX7 1 (some .int) 0 gN) (I : e_I) (L : e_L) : Zo X (ph_i I L) (f_X7_size I) 0 [(0, .ref 0)] [] I L := by
  unfold f_X7_size
  refine zo_aload_n hC dX7_size_0 rfl 0 rfl ?_
  refine zo_getR hC (r := 1) fk7_12 (by decide) gr_0_0 at_0 dX7_size_1 ?_
  refine zo_getI hC fk7_58 at_1 dX7_size_4 ?_
  exact zo_iret hC rfl dX7_size_7

theorem T_X7_size (I : e_I) (L : e_L) (p : Int32) (hp : f_X7_size I = some p) : Mt yX7_size cX7_size 1 (some .int) 0 gN [.ref 0] I L ((ph_i I L) p) := zo_enter hp (by decide) (Nat.le_of_ble_eq_true rfl) (fun X hC => Zf_X7_size hC I L)
