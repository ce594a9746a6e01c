def f_X6_put_3 (v1 : Int32) (k46 : e_I → Option (e_I)) : Nat → Int32 → e_I → Option (e_I)
  | 0, _, _ => none
  | n + 1, v2, I =>
    if v2 < 0 then (
      k46 I)
    else (
      if (I 1 3) ≥ 500 then (
        k46 I)
      else (
        e_as (e_ix (I 1 3) 500 = true) (
        e_let (e_ui I 5 (I 1 3).toNatClampNeg (vp_nar .byte ((v1 >>> (v2 &&& 31)).toInt8.toInt32))) (fun (I_4 : e_I) =>
        e_let (e_ui I_4 1 3 ((I_4 1 3) + 1)) (fun (I_5 : e_I) =>
        e_let (v2 + (-8)) (fun (x_6 : Int32) =>
        f_X6_put_3 v1 k46 n x_6 I_5))))))
set_option maxRecDepth 100000 in
set_option maxHeartbeats 4000000 in
theorem Zf_X6_put_3 {X : e_X} (hC : e_C X cX6_put RX6 3 none 0 gN) (L : e_L) (v1 : Int32) (k46 : e_I → Option (e_I)) (hk46 : ∀ (I : e_I), Zo X (ph_vI L) (k46 I) 46 [] [] I L) : ∀ (n : Nat) (v2 : Int32) (I : e_I), Zo X (ph_vI L) (f_X6_put_3 v1 k46 n v2 I) 3 [(0, .ref 1), (1, .int v1), (2, .int v2)] [] I L := by
  intro n
  induction n with
  | zero => intro v2 I p hp; cases hp
  | succ n ih =>
    intro v2 I
    unfold f_X6_put_3
    refine zo_iload_n hC dX6_put_3 rfl 2 rfl ?_
    refine zo_if_lt (tgt := 46) hC dX6_put_4 (by decide) (fun c_1 => ?_) (fun c_1 => ?_)
    · refine zo_sub [] (lv' := []) rfl ?_
      exact hk46 I
    · refine zo_aload_n hC dX6_put_7 rfl 0 rfl ?_
      refine zo_getI hC fk6_48 at_1 dX6_put_8 ?_
      refine zo_sipush (v := 500) hC (by decide) dX6_put_11 ?_
      refine zo_icmp_ge (tgt := 46) hC dX6_put_14 (by decide) (fun c_2 => ?_) (fun c_2 => ?_)
      · refine zo_sub [] (lv' := []) rfl ?_
        exact hk46 I
      · refine zo_aload_n hC dX6_put_17 rfl 0 rfl ?_
        refine zo_getR hC (r := 5) fk6_21 (by decide) gr_1_6 at_1 dX6_put_18 ?_
        refine zo_aload_n hC dX6_put_21 rfl 0 rfl ?_
        refine zo_getI hC fk6_48 at_1 dX6_put_22 ?_
        refine zo_iload_n hC dX6_put_25 rfl 1 rfl ?_
        refine zo_iload_n hC dX6_put_26 rfl 2 rfl ?_
        refine zo_ishr hC dX6_put_27 ?_
        refine zo_i2b hC dX6_put_28 ?_
        refine zo_as (fun h_3 => ?_)
        refine zo_bast hC ar_5 (e_ix_vp h_3) dX6_put_29 ?_
        refine zo_topI (fun I_4 => ?_)
        refine zo_aload_n hC dX6_put_30 rfl 0 rfl ?_
        refine zo_dup hC rfl dX6_put_31 ?_
        refine zo_getI hC fk6_48 at_1 dX6_put_32 ?_
        refine zo_iconst (v := 1) hC (by decide) dX6_put_35 ?_
        refine zo_iadd hC dX6_put_36 ?_
        refine zo_putI hC fk6_48 ff6_3 at_1 dX6_put_37 ?_
        refine zo_topI (fun I_5 => ?_)
        refine zo_iinc hC (x := v2) (fun x_6 => [(2, .int x_6), (0, .ref 1), (1, .int v1)]) dX6_put_40 2 rfl (by rfl) (by decide) (fun _ => rfl) (fun x_6 => ?_)
        refine zo_goto (tgt := 3) hC dX6_put_43 (by decide) ?_
        refine zo_sub [1, 2, 0] (lv' := [(0, .ref 1), (1, .int v1), (2, .int x_6)]) rfl ?_
        exact ih x_6 I_5

def f_X6_put (v1 : Int32) (I : e_I) : Option (e_I) :=
  f_X6_put_3 v1 (fun (I_1 : e_I) =>
    some I_1) e_FU 24 I
set_option maxRecDepth 100000 in
set_option maxHeartbeats 4000000 in
theorem Zf_X6_put {X : e_X} (hC : e_C X cX6_put RX6 3 none 0 gN) (v1 : Int32) (I : e_I) (L : e_L) : Zo X (ph_vI L) (f_X6_put v1 I) 0 [(0, .ref 1), (1, .int v1)] [] I L := by
  unfold f_X6_put
  refine zo_bipush (v := 24) hC (by decide) dX6_put_0 ?_
  refine zo_istore_n (lv' := [(2, .int 24), (0, .ref 1), (1, .int v1)]) hC dX6_put_2 rfl (by decide) rfl ?_
  refine zo_sub [1, 2, 0] (lv' := [(0, .ref 1), (1, .int v1), (2, .int 24)]) rfl ?_
  refine Zf_X6_put_3 hC L v1 _ (fun I_1 => ?_) e_FU 24 I
  · exact zo_vret hC rfl dX6_put_46

theorem T_X6_put (v1 : Int32) (I : e_I) (L : e_L) (p : e_I) (hp : f_X6_put v1 I = some p) : Mt yX6_put cX6_put 3 none 0 gN [.ref 1, .int v1] I L ((ph_vI L) p) := zo_enter hp (by decide) (Nat.le_of_ble_eq_true rfl) (fun X hC => Zf_X6_put hC v1 I L)
def f_X7_feed (v1 : Int32) (v2 : Int32) (v3 : Int32) (v4 : Int32) (v5 : Int32) (I : e_I) : Option (Int32 × e_I) :=
  if ((I 1 3) + 20) ≤ 500 then (
    e_b1 (f_X6_put v1 I) (fun (I_2 : e_I) =>
    e_b1 (f_X6_put v2 I_2) (fun (I_3 : e_I) =>
    e_b1 (f_X6_put v3 I_3) (fun (I_4 : e_I) =>
    e_b1 (f_X6_put v4 I_4) (fun (I_5 : e_I) =>
    e_b1 (f_X6_put v5 I_5) (fun (I_6 : e_I) =>
    some ((I_6 1 3), I_6)))))))
  else (
    some ((-1), I))
set_option maxRecDepth 100000 in
set_option maxHeartbeats 4000000 in
theorem Zf_X7_feed {X : e_X} (hC : e_C X cX7_feed RX7 6 (some .int) 1 gN) (v1 : Int32) (v2 : Int32) (v3 : Int32) (v4 : Int32) (v5 : Int32) (I : e_I) (L : e_L) : Zo X (ph_iI L) (f_X7_feed v1 v2 v3 v4 v5 I) 0 [(0, .ref 0), (1, .int v1), (2, .int v2), (3, .int v3), (4, .int v4), (5, .int v5)] [] I L := by
  unfold f_X7_feed
  refine zo_aload_n hC dX7_feed_0 rfl 0 rfl ?_
  refine zo_getR hC (r := 1) fk7_12 (by decide) gr_0_0 at_0 dX7_feed_1 ?_
  refine zo_getI hC fk7_58 at_1 dX7_feed_4 ?_
  refine zo_bipush (v := 20) hC (by decide) dX7_feed_7 ?_
  refine zo_iadd hC dX7_feed_9 ?_
  refine zo_sipush (v := 500) hC (by decide) dX7_feed_10 ?_
  refine zo_icmp_le (tgt := 18) hC dX7_feed_13 (by decide) (fun c_1 => ?_) (fun c_1 => ?_)
  · refine zo_aload_n hC dX7_feed_18 rfl 0 rfl ?_
    refine zo_getR hC (r := 1) fk7_12 (by decide) gr_0_0 at_0 dX7_feed_19 ?_
    refine zo_iload_n hC dX7_feed_22 rfl 1 rfl ?_
    refine zo_callV_vI hC (ci := 6) [.int v1] [] me_X6_put mlX7_62 im_X6_put se_X6_put rfl (by decide) at_1 (fun p hp => T_X6_put v1 I L p hp) (by decide) rfl (Nat.le_of_ble_eq_true rfl) dX7_feed_23 rfl (fun I_2 => ?_)
    refine zo_aload_n hC dX7_feed_26 rfl 0 rfl ?_
    refine zo_getR hC (r := 1) fk7_12 (by decide) gr_0_0 at_0 dX7_feed_27 ?_
    refine zo_iload_n hC dX7_feed_30 rfl 2 rfl ?_
    refine zo_callV_vI hC (ci := 6) [.int v2] [] me_X6_put mlX7_62 im_X6_put se_X6_put rfl (by decide) at_1 (fun p hp => T_X6_put v2 I_2 L p hp) (by decide) rfl (Nat.le_of_ble_eq_true rfl) dX7_feed_31 rfl (fun I_3 => ?_)
    refine zo_aload_n hC dX7_feed_34 rfl 0 rfl ?_
    refine zo_getR hC (r := 1) fk7_12 (by decide) gr_0_0 at_0 dX7_feed_35 ?_
    refine zo_iload_n hC dX7_feed_38 rfl 3 rfl ?_
    refine zo_callV_vI hC (ci := 6) [.int v3] [] me_X6_put mlX7_62 im_X6_put se_X6_put rfl (by decide) at_1 (fun p hp => T_X6_put v3 I_3 L p hp) (by decide) rfl (Nat.le_of_ble_eq_true rfl) dX7_feed_39 rfl (fun I_4 => ?_)
    refine zo_aload_n hC dX7_feed_42 rfl 0 rfl ?_
    refine zo_getR hC (r := 1) fk7_12 (by decide) gr_0_0 at_0 dX7_feed_43 ?_
    refine zo_iload hC dX7_feed_46 4 rfl ?_
    refine zo_callV_vI hC (ci := 6) [.int v4] [] me_X6_put mlX7_62 im_X6_put se_X6_put rfl (by decide) at_1 (fun p hp => T_X6_put v4 I_4 L p hp) (by decide) rfl (Nat.le_of_ble_eq_true rfl) dX7_feed_48 rfl (fun I_5 => ?_)
    refine zo_aload_n hC dX7_feed_51 rfl 0 rfl ?_
    refine zo_getR hC (r := 1) fk7_12 (by decide) gr_0_0 at_0 dX7_feed_52 ?_
    refine zo_iload hC dX7_feed_55 5 rfl ?_
    refine zo_callV_vI hC (ci := 6) [.int v5] [] me_X6_put mlX7_62 im_X6_put se_X6_put rfl (by decide) at_1 (fun p hp => T_X6_put v5 I_5 L p hp) (by decide) rfl (Nat.le_of_ble_eq_true rfl) dX7_feed_57 rfl (fun I_6 => ?_)
    refine zo_aload_n hC dX7_feed_60 rfl 0 rfl ?_
    refine zo_getR hC (r := 1) fk7_12 (by decide) gr_0_0 at_0 dX7_feed_61 ?_
    refine zo_getI hC fk7_58 at_1 dX7_feed_64 ?_
    exact zo_iret hC rfl dX7_feed_67
  · refine zo_iconst (v := (-1)) hC (by decide) dX7_feed_16 ?_
    exact zo_iret hC rfl dX7_feed_17

theorem T_X7_feed (v1 : Int32) (v2 : Int32) (v3 : Int32) (v4 : Int32) (v5 : Int32) (I : e_I) (L : e_L) (p : Int32 × e_I) (hp : f_X7_feed v1 v2 v3 v4 v5 I = some p) : Mt yX7_feed cX7_feed 6 (some .int) 1 gN [.ref 0, .int v1, .int v2, .int v3, .int v4, .int v5] I L ((ph_iI L) p) := zo_enter hp (by decide) (Nat.le_of_ble_eq_true rfl) (fun X hC => Zf_X7_feed hC v1 v2 v3 v4 v5 I L)
def f_X7_within_15 (s0 : Int32) : Option (Int32) :=
  e_as (s0 = 0 ∨ s0 = 1) (
  some s0)
set_option maxRecDepth 100000 in
set_option maxHeartbeats 4000000 in
theorem Zf_X7_within_15 {X : e_X} (hC : e_C X cX7_within RX7 3 (some .boolean) 0 gN) (I : e_I) (L : e_L) (s0 : Int32) : Zo X (ph_i I L) (f_X7_within_15 s0) 15 [] [.int s0] I L := by
  unfold f_X7_within_15
  refine zo_as (fun h_1 => ?_)
  exact zo_zret hC h_1 rfl dX7_within_15

def f_X7_within_14 : Option (Int32) :=
  f_X7_within_15 0
set_option maxRecDepth 100000 in
set_option maxHeartbeats 4000000 in
theorem Zf_X7_within_14 {X : e_X} (hC : e_C X cX7_within RX7 3 (some .boolean) 0 gN) (I : e_I) (L : e_L) : Zo X (ph_i I L) (f_X7_within_14) 14 [] [] I L := by
  unfold f_X7_within_14
  refine zo_iconst (v := 0) hC (by decide) dX7_within_14 ?_
  exact Zf_X7_within_15 hC I L 0

def f_X7_within (v0 : Int32) (v1 : Int32) (v2 : Int32) : Option (Int32) :=
  if v0 < v1 then (
    f_X7_within_14 )
  else (
    if v0 > v2 then (
      f_X7_within_14 )
    else (
      f_X7_within_15 1))
set_option maxRecDepth 100000 in
set_option maxHeartbeats 4000000 in
theorem Zf_X7_within {X : e_X} (hC : e_C X cX7_within RX7 3 (some .boolean) 0 gN) (v0 : Int32) (v1 : Int32) (v2 : Int32) (I : e_I) (L : e_L) : Zo X (ph_i I L) (f_X7_within v0 v1 v2) 0 [(0, .int v0), (1, .int v1), (2, .int v2)] [] I L := by
  unfold f_X7_within
  refine zo_iload_n hC dX7_within_0 rfl 0 rfl ?_
  refine zo_iload_n hC dX7_within_1 rfl 1 rfl ?_
  refine zo_icmp_lt (tgt := 14) hC dX7_within_2 (by decide) (fun c_1 => ?_) (fun c_1 => ?_)
  · refine zo_sub [] (lv' := []) rfl ?_
    exact Zf_X7_within_14 hC I L 
  · refine zo_iload_n hC dX7_within_5 rfl 0 rfl ?_
    refine zo_iload_n hC dX7_within_6 rfl 2 rfl ?_
    refine zo_icmp_gt (tgt := 14) hC dX7_within_7 (by decide) (fun c_2 => ?_) (fun c_2 => ?_)
    · refine zo_sub [] (lv' := []) rfl ?_
      exact Zf_X7_within_14 hC I L 
    · refine zo_iconst (v := 1) hC (by decide) dX7_within_10 ?_
      refine zo_goto (tgt := 15) hC dX7_within_11 (by decide) ?_
      refine zo_sub [] (lv' := []) rfl ?_
      exact Zf_X7_within_15 hC I L 1

theorem T_X7_within (v0 : Int32) (v1 : Int32) (v2 : Int32) (I : e_I) (L : e_L) (p : Int32) (hp : f_X7_within v0 v1 v2 = some p) : Mt yX7_within cX7_within 3 (some .boolean) 0 gN [.int v0, .int v1, .int v2] I L ((ph_i I L) p) := zo_enter hp (by decide) (Nat.le_of_ble_eq_true rfl) (fun X hC => Zf_X7_within hC v0 v1 v2 I L)
def f_X0_ruled_19 (g : Nat) (I : e_I) (s0 : Int32) : Option (Int32) :=
  some s0
set_option maxRecDepth 100000 in
set_option maxHeartbeats 4000000 in
theorem Zf_X0_ruled_19 {X : e_X} (hC : e_C X cX0_ruled RX0 2 (some .int) 1 gN) (g : Nat) (hg : e_isG g) (I : e_I) (L : e_L) (s0 : Int32) : Zo X (ph_i I L) (f_X0_ruled_19 g I s0) 19 [] [.int s0] I L := by
  unfold f_X0_ruled_19
  exact zo_iret hC rfl dX0_ruled_19

def f_X0_ruled (g : Nat) (v1 : Int32) (I : e_I) : Option (Int32) :=
  e_b1 (f_X7_within v1 0 4) (fun (r_1 : Int32) =>
  if r_1 = 0 then (
    f_X0_ruled_19 g I (-1))
  else (
    e_as (e_ix v1 5 = true) (
    f_X0_ruled_19 g I (I (g + 2) v1.toNatClampNeg))))
set_option maxRecDepth 100000 in
set_option maxHeartbeats 4000000 in
theorem Zf_X0_ruled {X : e_X} (hC : e_C X cX0_ruled RX0 2 (some .int) 1 gN) (g : Nat) (hg : e_isG g) (v1 : Int32) (I : e_I) (L : e_L) : Zo X (ph_i I L) (f_X0_ruled g v1 I) 0 [(0, .ref g), (1, .int v1)] [] I L := by
  unfold f_X0_ruled
  refine zo_iload_n hC dX0_ruled_0 rfl 1 rfl ?_
  refine zo_iconst (v := 0) hC (by decide) dX0_ruled_1 ?_
  refine zo_iconst (v := 4) hC (by decide) dX0_ruled_2 ?_
  refine zo_callSN_i hC [.int v1, .int 0, .int 4] [] me_X7_within (List.mem_of_getElem? (i := 5) rfl) sm_X7_within (fun p hp => T_X7_within v1 0 4 I L p hp) (by decide) rfl (Nat.le_of_ble_eq_true rfl) dX0_ruled_3 rfl (fun r_1 => ?_)
  refine zo_if_eq (tgt := 18) hC dX0_ruled_6 (by decide) (fun c_2 => ?_) (fun c_2 => ?_)
  · refine zo_iconst (v := (-1)) hC (by decide) dX0_ruled_18 ?_
    refine zo_sub [] (lv' := []) rfl ?_
    exact Zf_X0_ruled_19 hC g hg I L (-1)
  · refine zo_aload_n hC dX0_ruled_9 rfl 0 rfl ?_
    refine zo_getR hC (r := (g + 2)) fk0_15 (by decide) (grG9 hg) (atG hg) dX0_ruled_10 ?_
    refine zo_iload_n hC dX0_ruled_13 rfl 1 rfl ?_
    refine zo_as (fun h_3 => ?_)
    refine zo_iald hC (arG2 hg) (e_ix_vp h_3) dX0_ruled_14 ?_
    refine zo_goto (tgt := 19) hC dX0_ruled_15 (by decide) ?_
    refine zo_sub [] (lv' := []) rfl ?_
    exact Zf_X0_ruled_19 hC g hg I L (I (g + 2) v1.toNatClampNeg)

theorem T_X0_ruled (g : Nat) (hg : e_isG g) (v1 : Int32) (I : e_I) (L : e_L) (p : Int32) (hp : f_X0_ruled g v1 I = some p) : Mt yX0_ruled cX0_ruled 2 (some .int) 1 gN [.ref g, .int v1] I L ((ph_i I L) p) := zo_enter hp (by decide) (Nat.le_of_ble_eq_true rfl) (fun X hC => Zf_X0_ruled hC g hg v1 I L)
def f_X7_basesOf (v0 : Int32) : Option (Int32) :=
  some (v0 &&& 7)
set_option maxRecDepth 100000 in
set_option maxHeartbeats 4000000 in
theorem Zf_X7_basesOf {X : e_X} (hC : e_C X cX7_basesOf RX7 1 (some .int) 0 gN) (v0 : Int32) (I : e_I) (L : e_L) : Zo X (ph_i I L) (f_X7_basesOf v0) 0 [(0, .int v0)] [] I L := by
  unfold f_X7_basesOf
  refine zo_iload_n hC dX7_basesOf_0 rfl 0 rfl ?_
  refine zo_bipush (v := 7) hC (by decide) dX7_basesOf_1 ?_
  refine zo_iand hC dX7_basesOf_3 ?_
  exact zo_iret hC rfl dX7_basesOf_4

theorem T_X7_basesOf (v0 : Int32) (I : e_I) (L : e_L) (p : Int32) (hp : f_X7_basesOf v0 = some p) : Mt yX7_basesOf cX7_basesOf 1 (some .int) 0 gN [.int v0] I L ((ph_i I L) p) := zo_enter hp (by decide) (Nat.le_of_ble_eq_true rfl) (fun X hC => Zf_X7_basesOf hC v0 I L)
def f_X7_outsOf (v0 : Int32) : Option (Int32) :=
  some (v0 >>> (3 &&& 31))
set_option maxRecDepth 100000 in
set_option maxHeartbeats 4000000 in
theorem Zf_X7_outsOf {X : e_X} (hC : e_C X cX7_outsOf RX7 1 (some .int) 0 gN) (v0 : Int32) (I : e_I) (L : e_L) : Zo X (ph_i I L) (f_X7_outsOf v0) 0 [(0, .int v0)] [] I L := by
  unfold f_X7_outsOf
  refine zo_iload_n hC dX7_outsOf_0 rfl 0 rfl ?_
  refine zo_iconst (v := 3) hC (by decide) dX7_outsOf_1 ?_
  refine zo_ishr hC dX7_outsOf_2 ?_
  exact zo_iret hC rfl dX7_outsOf_3

theorem T_X7_outsOf (v0 : Int32) (I : e_I) (L : e_L) (p : Int32) (hp : f_X7_outsOf v0 = some p) : Mt yX7_outsOf cX7_outsOf 1 (some .int) 0 gN [.int v0] I L ((ph_i I L) p) := zo_enter hp (by decide) (Nat.le_of_ble_eq_true rfl) (fun X hC => Zf_X7_outsOf hC v0 I L)
def f_X7_stateOf (v0 : Int32) (v1 : Int32) : Option (Int32) :=
  some ((v1 * 8) + v0)
set_option maxRecDepth 100000 in
set_option maxHeartbeats 4000000 in
theorem Zf_X7_stateOf {X : e_X} (hC : e_C X cX7_stateOf RX7 2 (some .int) 0 gN) (v0 : Int32) (v1 : Int32) (I : e_I) (L : e_L) : Zo X (ph_i I L) (f_X7_stateOf v0 v1) 0 [(0, .int v0), (1, .int v1)] [] I L := by
  unfold f_X7_stateOf
  refine zo_iload_n hC dX7_stateOf_0 rfl 1 rfl ?_
  refine zo_bipush (v := 8) hC (by decide) dX7_stateOf_1 ?_
  refine zo_imul hC dX7_stateOf_3 ?_
  refine zo_iload_n hC dX7_stateOf_4 rfl 0 rfl ?_
  refine zo_iadd hC dX7_stateOf_5 ?_
  exact zo_iret hC rfl dX7_stateOf_6

theorem T_X7_stateOf (v0 : Int32) (v1 : Int32) (I : e_I) (L : e_L) (p : Int32) (hp : f_X7_stateOf v0 v1 = some p) : Mt yX7_stateOf cX7_stateOf 2 (some .int) 0 gN [.int v0, .int v1] I L ((ph_i I L) p) := zo_enter hp (by decide) (Nat.le_of_ble_eq_true rfl) (fun X hC => Zf_X7_stateOf hC v0 v1 I L)
def f_X2_canBe_26 (I : e_I) (s0 : Int32) : Option (Int32) :=
  e_as (s0 = 0 ∨ s0 = 1) (
  some s0)
set_option maxRecDepth 100000 in
set_option maxHeartbeats 4000000 in
theorem Zf_X2_canBe_26 {X : e_X} (hC : e_C X cX2_canBe RX2 2 (some .boolean) 0 gN) (I : e_I) (L : e_L) (s0 : Int32) : Zo X (ph_i I L) (f_X2_canBe_26 I s0) 26 [] [.int s0] I L := by
  unfold f_X2_canBe_26
  refine zo_as (fun h_1 => ?_)
  exact zo_zret hC h_1 rfl dX2_canBe_26

def f_X2_canBe_25 (I : e_I) : Option (Int32) :=
  f_X2_canBe_26 I 0
set_option maxRecDepth 100000 in
set_option maxHeartbeats 4000000 in
theorem Zf_X2_canBe_25 {X : e_X} (hC : e_C X cX2_canBe RX2 2 (some .boolean) 0 gN) (I : e_I) (L : e_L) : Zo X (ph_i I L) (f_X2_canBe_25 I) 25 [] [] I L := by
  unfold f_X2_canBe_25
  refine zo_iconst (v := 0) hC (by decide) dX2_canBe_25 ?_
  exact Zf_X2_canBe_26 hC I L 0

def f_X2_canBe_48 (I : e_I) (s0 : Int32) : Option (Int32) :=
  e_as (s0 = 0 ∨ s0 = 1) (
  some s0)
set_option maxRecDepth 100000 in
set_option maxHeartbeats 4000000 in
theorem Zf_X2_canBe_48 {X : e_X} (hC : e_C X cX2_canBe RX2 2 (some .boolean) 0 gN) (I : e_I) (L : e_L) (s0 : Int32) : Zo X (ph_i I L) (f_X2_canBe_48 I s0) 48 [] [.int s0] I L := by
  unfold f_X2_canBe_48
  refine zo_as (fun h_1 => ?_)
  exact zo_zret hC h_1 rfl dX2_canBe_48

def f_X2_canBe_43 (I : e_I) : Option (Int32) :=
  f_X2_canBe_48 I 1
set_option maxRecDepth 100000 in
set_option maxHeartbeats 4000000 in
theorem Zf_X2_canBe_43 {X : e_X} (hC : e_C X cX2_canBe RX2 2 (some .boolean) 0 gN) (I : e_I) (L : e_L) : Zo X (ph_i I L) (f_X2_canBe_43 I) 43 [] [] I L := by
  unfold f_X2_canBe_43
  refine zo_iconst (v := 1) hC (by decide) dX2_canBe_43 ?_
  refine zo_goto (tgt := 48) hC dX2_canBe_44 (by decide) ?_
  exact Zf_X2_canBe_48 hC I L 1

def f_X2_canBe (v1 : Int32) (I : e_I) : Option (Int32) :=
  if v1 ≠ 6 then (
    if v1 < 6 then (
      f_X2_canBe_43 I )
    else (
      if ((I 12 2) &&& 3) ≠ 1 then (
        f_X2_canBe_48 I 0)
      else (
        f_X2_canBe_43 I )))
  else (
    if (I 12 2) = 0 then (
      f_X2_canBe_25 I )
    else (
      if (I 12 3) ≥ 2 then (
        f_X2_canBe_25 I )
      else (
        f_X2_canBe_26 I 1)))
set_option maxRecDepth 100000 in
set_option maxHeartbeats 4000000 in
theorem Zf_X2_canBe {X : e_X} (hC : e_C X cX2_canBe RX2 2 (some .boolean) 0 gN) (v1 : Int32) (I : e_I) (L : e_L) : Zo X (ph_i I L) (f_X2_canBe v1 I) 0 [(0, .ref 12), (1, .int v1)] [] I L := by
  unfold f_X2_canBe
  refine zo_iload_n hC dX2_canBe_0 rfl 1 rfl ?_
  refine zo_bipush (v := 6) hC (by decide) dX2_canBe_1 ?_
  refine zo_icmp_ne (tgt := 27) hC dX2_canBe_3 (by decide) (fun c_1 => ?_) (fun c_1 => ?_)
  · refine zo_iload_n hC dX2_canBe_27 rfl 1 rfl ?_
    refine zo_bipush (v := 6) hC (by decide) dX2_canBe_28 ?_
    refine zo_icmp_lt (tgt := 43) hC dX2_canBe_30 (by decide) (fun c_2 => ?_) (fun c_2 => ?_)
    · refine zo_sub [] (lv' := []) rfl ?_
      exact Zf_X2_canBe_43 hC I L 
    · refine zo_aload_n hC dX2_canBe_33 rfl 0 rfl ?_
      refine zo_getI hC fk2_22 at_12 dX2_canBe_34 ?_
      refine zo_iconst (v := 3) hC (by decide) dX2_canBe_37 ?_
      refine zo_iand hC dX2_canBe_38 ?_
      refine zo_iconst (v := 1) hC (by decide) dX2_canBe_39 ?_
      refine zo_icmp_ne (tgt := 47) hC dX2_canBe_40 (by decide) (fun c_3 => ?_) (fun c_3 => ?_)
      · refine zo_iconst (v := 0) hC (by decide) dX2_canBe_47 ?_
        refine zo_sub [] (lv' := []) rfl ?_
        exact Zf_X2_canBe_48 hC I L 0
      · refine zo_sub [] (lv' := []) rfl ?_
        exact Zf_X2_canBe_43 hC I L 
  · refine zo_aload_n hC dX2_canBe_6 rfl 0 rfl ?_
    refine zo_getI hC fk2_22 at_12 dX2_canBe_7 ?_
    refine zo_if_eq (tgt := 25) hC dX2_canBe_10 (by decide) (fun c_4 => ?_) (fun c_4 => ?_)
    · refine zo_sub [] (lv' := []) rfl ?_
      exact Zf_X2_canBe_25 hC I L 
    · refine zo_aload_n hC dX2_canBe_13 rfl 0 rfl ?_
      refine zo_getI hC fk2_29 at_12 dX2_canBe_14 ?_
      refine zo_iconst (v := 2) hC (by decide) dX2_canBe_17 ?_
      refine zo_icmp_ge (tgt := 25) hC dX2_canBe_18 (by decide) (fun c_5 => ?_) (fun c_5 => ?_)
      · refine zo_sub [] (lv' := []) rfl ?_
        exact Zf_X2_canBe_25 hC I L 
      · refine zo_iconst (v := 1) hC (by decide) dX2_canBe_21 ?_
        refine zo_goto (tgt := 26) hC dX2_canBe_22 (by decide) ?_
        refine zo_sub [] (lv' := []) rfl ?_
        exact Zf_X2_canBe_26 hC I L 1

theorem T_X2_canBe (v1 : Int32) (I : e_I) (L : e_L) (p : Int32) (hp : f_X2_canBe v1 I = some p) : Mt yX2_canBe cX2_canBe 2 (some .boolean) 0 gN [.ref 12, .int v1] I L ((ph_i I L) p) := zo_enter hp (by decide) (Nat.le_of_ble_eq_true rfl) (fun X hC => Zf_X2_canBe hC v1 I L)
def f_X2_comeOn (v1 : Int32) (I : e_I) : Option (e_I) :=
  e_let ((I 12 2) <<< (v1 &&& 31)) (fun (x_1 : Int32) =>
  e_b1 (f_J6_bitCount_0f7a4 (x_1 >>> (3 &&& 31))) (fun (r_2 : Int32) =>
  e_let (e_ui I 12 4 r_2) (fun (I_3 : e_I) =>
  e_let (e_ui I_3 12 2 (x_1 &&& 7)) (fun (I_4 : e_I) =>
  some I_4))))
set_option maxRecDepth 100000 in
set_option maxHeartbeats 4000000 in
theorem Zf_X2_comeOn {X : e_X} (hC : e_C X cX2_comeOn RX2 3 none 1 gN) (v1 : Int32) (I : e_I) (L : e_L) : Zo X (ph_vI L) (f_X2_comeOn v1 I) 0 [(0, .ref 12), (1, .int v1)] [] I L := by
  unfold f_X2_comeOn
  refine zo_aload_n hC dX2_comeOn_0 rfl 0 rfl ?_
  refine zo_getI hC fk2_22 at_12 dX2_comeOn_1 ?_
  refine zo_iload_n hC dX2_comeOn_4 rfl 1 rfl ?_
  refine zo_ishl hC dX2_comeOn_5 ?_
  refine zo_topi (fun x_1 => ?_)
  refine zo_istore_n (lv' := [(2, .int x_1), (0, .ref 12), (1, .int v1)]) hC dX2_comeOn_6 rfl (by decide) rfl ?_
  refine zo_aload_n hC dX2_comeOn_7 rfl 1 rfl ?_
  refine zo_iload_n hC dX2_comeOn_8 rfl 0 rfl ?_
  refine zo_iconst (v := 3) hC (by decide) dX2_comeOn_9 ?_
  refine zo_ishr hC dX2_comeOn_10 ?_
  refine zo_callS_i hC [.int (x_1 >>> (3 &&& 31))] [.ref 12] me_J6_bitCount_0f7a4 mlX2_57 sm_J6_bitCount_0f7a4 (fun p hp => T_J6_bitCount_0f7a4 (x_1 >>> (3 &&& 31)) I L p hp) (by decide) rfl (Nat.le_of_ble_eq_true rfl) dX2_comeOn_11 rfl (fun r_2 => ?_)
  refine zo_putI hC fk2_32 ff2_4 at_12 dX2_comeOn_14 ?_
  refine zo_topI (fun I_3 => ?_)
  refine zo_aload_n hC dX2_comeOn_17 rfl 1 rfl ?_
  refine zo_iload_n hC dX2_comeOn_18 rfl 0 rfl ?_
  refine zo_bipush (v := 7) hC (by decide) dX2_comeOn_19 ?_
  refine zo_iand hC dX2_comeOn_21 ?_
  refine zo_putI hC fk2_22 ff2_2 at_12 dX2_comeOn_22 ?_
  refine zo_topI (fun I_4 => ?_)
  exact zo_vret hC rfl dX2_comeOn_25

theorem T_X2_comeOn (v1 : Int32) (I : e_I) (L : e_L) (p : e_I) (hp : f_X2_comeOn v1 I = some p) : Mt yX2_comeOn cX2_comeOn 3 none 1 gN [.ref 12, .int v1] I L ((ph_vI L) p) := zo_enter hp (by decide) (Nat.le_of_ble_eq_true rfl) (fun X hC => Zf_X2_comeOn hC v1 I L)
def f_X2_putOut_47 (I : e_I) : Option (e_I) :=
  some I
set_option maxRecDepth 100000 in
set_option maxHeartbeats 4000000 in
theorem Zf_X2_putOut_47 {X : e_X} (hC : e_C X cX2_putOut RX2 2 none 0 gN) (L : e_L) (I : e_I) : Zo X (ph_vI L) (f_X2_putOut_47 I) 47 [] [] I L := by
  unfold f_X2_putOut_47
  exact zo_vret hC rfl dX2_putOut_47

def f_X2_putOut (v1 : Int32) (I : e_I) : Option (e_I) :=
  e_let (e_ui I 12 3 ((I 12 3) + 1)) (fun (I_1 : e_I) =>
  if v1 ≠ 1 then (
    f_X2_putOut_47 I_1)
  else (
    if (I_1 12 3) ≥ 3 then (
      f_X2_putOut_47 I_1)
    else (
      if ((I_1 12 2) &&& 4) = 0 then (
        f_X2_putOut_47 I_1)
      else (
        e_let (e_ui I_1 12 2 ((I_1 12 2) - 4)) (fun (I_5 : e_I) =>
        e_let (e_ui I_5 12 4 1) (fun (I_6 : e_I) =>
        f_X2_putOut_47 I_6))))))
set_option maxRecDepth 100000 in
set_option maxHeartbeats 4000000 in
theorem Zf_X2_putOut {X : e_X} (hC : e_C X cX2_putOut RX2 2 none 0 gN) (v1 : Int32) (I : e_I) (L : e_L) : Zo X (ph_vI L) (f_X2_putOut v1 I) 0 [(0, .ref 12), (1, .int v1)] [] I L := by
  unfold f_X2_putOut
  refine zo_aload_n hC dX2_putOut_0 rfl 0 rfl ?_
  refine zo_dup hC rfl dX2_putOut_1 ?_
  refine zo_getI hC fk2_29 at_12 dX2_putOut_2 ?_
  refine zo_iconst (v := 1) hC (by decide) dX2_putOut_5 ?_
  refine zo_iadd hC dX2_putOut_6 ?_
  refine zo_putI hC fk2_29 ff2_3 at_12 dX2_putOut_7 ?_
  refine zo_topI (fun I_1 => ?_)
  refine zo_iload_n hC dX2_putOut_10 rfl 1 rfl ?_
  refine zo_iconst (v := 1) hC (by decide) dX2_putOut_11 ?_
  refine zo_icmp_ne (tgt := 47) hC dX2_putOut_12 (by decide) (fun c_2 => ?_) (fun c_2 => ?_)
  · refine zo_sub [] (lv' := []) rfl ?_
    exact Zf_X2_putOut_47 hC L I_1
  · refine zo_aload_n hC dX2_putOut_15 rfl 0 rfl ?_
    refine zo_getI hC fk2_29 at_12 dX2_putOut_16 ?_
    refine zo_iconst (v := 3) hC (by decide) dX2_putOut_19 ?_
    refine zo_icmp_ge (tgt := 47) hC dX2_putOut_20 (by decide) (fun c_3 => ?_) (fun c_3 => ?_)
    · refine zo_sub [] (lv' := []) rfl ?_
      exact Zf_X2_putOut_47 hC L I_1
    · refine zo_aload_n hC dX2_putOut_23 rfl 0 rfl ?_
      refine zo_getI hC fk2_22 at_12 dX2_putOut_24 ?_
      refine zo_iconst (v := 4) hC (by decide) dX2_putOut_27 ?_
      refine zo_iand hC dX2_putOut_28 ?_
      refine zo_if_eq (tgt := 47) hC dX2_putOut_29 (by decide) (fun c_4 => ?_) (fun c_4 => ?_)
      · refine zo_sub [] (lv' := []) rfl ?_
        exact Zf_X2_putOut_47 hC L I_1
      · refine zo_aload_n hC dX2_putOut_32 rfl 0 rfl ?_
        refine zo_dup hC rfl dX2_putOut_33 ?_
        refine zo_getI hC fk2_22 at_12 dX2_putOut_34 ?_
        refine zo_iconst (v := 4) hC (by decide) dX2_putOut_37 ?_
        refine zo_isub hC dX2_putOut_38 ?_
        refine zo_putI hC fk2_22 ff2_2 at_12 dX2_putOut_39 ?_
        refine zo_topI (fun I_5 => ?_)
        refine zo_aload_n hC dX2_putOut_42 rfl 0 rfl ?_
        refine zo_iconst (v := 1) hC (by decide) dX2_putOut_43 ?_
        refine zo_putI hC fk2_32 ff2_4 at_12 dX2_putOut_44 ?_
        refine zo_topI (fun I_6 => ?_)
        refine zo_sub [] (lv' := []) rfl ?_
        exact Zf_X2_putOut_47 hC L I_6

theorem T_X2_putOut (v1 : Int32) (I : e_I) (L : e_L) (p : e_I) (hp : f_X2_putOut v1 I = some p) : Mt yX2_putOut cX2_putOut 2 none 0 gN [.ref 12, .int v1] I L ((ph_vI L) p) := zo_enter hp (by decide) (Nat.le_of_ble_eq_true rfl) (fun X hC => Zf_X2_putOut hC v1 I L)
def f_X2_walk_71 (I : e_I) : Option (e_I) :=
  some I
set_option maxRecDepth 100000 in
set_option maxHeartbeats 4000000 in
theorem Zf_X2_walk_71 {X : e_X} (hC : e_C X cX2_walk RX2 1 none 0 gN) (L : e_L) (I : e_I) : Zo X (ph_vI L) (f_X2_walk_71 I) 71 [] [] I L := by
  unfold f_X2_walk_71
  exact zo_vret hC rfl dX2_walk_71

def f_X2_walk (I : e_I) : Option (e_I) :=
  if ((I 12 2) &&& 1) ≠ 0 then (
    if ((I 12 2) &&& 2) ≠ 0 then (
      if ((I 12 2) &&& 4) ≠ 0 then (
        e_let (e_ui I 12 4 1) (fun (I_4 : e_I) =>
        f_X2_walk_71 I_4))
      else (
        e_let (e_ui I 12 2 ((I 12 2) ||| 4)) (fun (I_5 : e_I) =>
        f_X2_walk_71 I_5)))
    else (
      e_let (e_ui I 12 2 ((I 12 2) ||| 2)) (fun (I_6 : e_I) =>
      f_X2_walk_71 I_6)))
  else (
    e_let (e_ui I 12 2 ((I 12 2) ||| 1)) (fun (I_7 : e_I) =>
    f_X2_walk_71 I_7))
set_option maxRecDepth 100000 in
set_option maxHeartbeats 4000000 in
theorem Zf_X2_walk {X : e_X} (hC : e_C X cX2_walk RX2 1 none 0 gN) (I : e_I) (L : e_L) : Zo X (ph_vI L) (f_X2_walk I) 0 [(0, .ref 12)] [] I L := by
  unfold f_X2_walk
  refine zo_aload_n hC dX2_walk_0 rfl 0 rfl ?_
  refine zo_getI hC fk2_22 at_12 dX2_walk_1 ?_
  refine zo_iconst (v := 1) hC (by decide) dX2_walk_4 ?_
  refine zo_iand hC dX2_walk_5 ?_
  refine zo_if_ne (tgt := 22) hC dX2_walk_6 (by decide) (fun c_1 => ?_) (fun c_1 => ?_)
  · refine zo_aload_n hC dX2_walk_22 rfl 0 rfl ?_
    refine zo_getI hC fk2_22 at_12 dX2_walk_23 ?_
    refine zo_iconst (v := 2) hC (by decide) dX2_walk_26 ?_
    refine zo_iand hC dX2_walk_27 ?_
    refine zo_if_ne (tgt := 44) hC dX2_walk_28 (by decide) (fun c_2 => ?_) (fun c_2 => ?_)
    · refine zo_aload_n hC dX2_walk_44 rfl 0 rfl ?_
      refine zo_getI hC fk2_22 at_12 dX2_walk_45 ?_
      refine zo_iconst (v := 4) hC (by decide) dX2_walk_48 ?_
      refine zo_iand hC dX2_walk_49 ?_
      refine zo_if_ne (tgt := 66) hC dX2_walk_50 (by decide) (fun c_3 => ?_) (fun c_3 => ?_)
      · refine zo_aload_n hC dX2_walk_66 rfl 0 rfl ?_
        refine zo_iconst (v := 1) hC (by decide) dX2_walk_67 ?_
        refine zo_putI hC fk2_32 ff2_4 at_12 dX2_walk_68 ?_
        refine zo_topI (fun I_4 => ?_)
        refine zo_sub [] (lv' := []) rfl ?_
        exact Zf_X2_walk_71 hC L I_4
      · refine zo_aload_n hC dX2_walk_53 rfl 0 rfl ?_
        refine zo_dup hC rfl dX2_walk_54 ?_
        refine zo_getI hC fk2_22 at_12 dX2_walk_55 ?_
        refine zo_iconst (v := 4) hC (by decide) dX2_walk_58 ?_
        refine zo_ior hC dX2_walk_59 ?_
        refine zo_putI hC fk2_22 ff2_2 at_12 dX2_walk_60 ?_
        refine zo_topI (fun I_5 => ?_)
        refine zo_goto (tgt := 71) hC dX2_walk_63 (by decide) ?_
        refine zo_sub [] (lv' := []) rfl ?_
        exact Zf_X2_walk_71 hC L I_5
    · refine zo_aload_n hC dX2_walk_31 rfl 0 rfl ?_
      refine zo_dup hC rfl dX2_walk_32 ?_
      refine zo_getI hC fk2_22 at_12 dX2_walk_33 ?_
      refine zo_iconst (v := 2) hC (by decide) dX2_walk_36 ?_
      refine zo_ior hC dX2_walk_37 ?_
      refine zo_putI hC fk2_22 ff2_2 at_12 dX2_walk_38 ?_
      refine zo_topI (fun I_6 => ?_)
      refine zo_goto (tgt := 71) hC dX2_walk_41 (by decide) ?_
      refine zo_sub [] (lv' := []) rfl ?_
      exact Zf_X2_walk_71 hC L I_6
  · refine zo_aload_n hC dX2_walk_9 rfl 0 rfl ?_
    refine zo_dup hC rfl dX2_walk_10 ?_
    refine zo_getI hC fk2_22 at_12 dX2_walk_11 ?_
    refine zo_iconst (v := 1) hC (by decide) dX2_walk_14 ?_
    refine zo_ior hC dX2_walk_15 ?_
    refine zo_putI hC fk2_22 ff2_2 at_12 dX2_walk_16 ?_
    refine zo_topI (fun I_7 => ?_)
    refine zo_goto (tgt := 71) hC dX2_walk_19 (by decide) ?_
    refine zo_sub [] (lv' := []) rfl ?_
    exact Zf_X2_walk_71 hC L I_7

theorem T_X2_walk (I : e_I) (L : e_L) (p : e_I) (hp : f_X2_walk I = some p) : Mt yX2_walk cX2_walk 1 none 0 gN [.ref 12] I L ((ph_vI L) p) := zo_enter hp (by decide) (Nat.le_of_ble_eq_true rfl) (fun X hC => Zf_X2_walk hC I L)
def f_X2_move_187 (I : e_I) : Option (e_I) :=
  some I
set_option maxRecDepth 100000 in
set_option maxHeartbeats 4000000 in
theorem Zf_X2_move_187 {X : e_X} (hC : e_C X cX2_move RX2 5 none 2 gN) (L : e_L) (I : e_I) : Zo X (ph_vI L) (f_X2_move_187 I) 187 [] [] I L := by
  unfold f_X2_move_187
  exact zo_vret hC rfl dX2_move_187

def f_X2_move (v1 : Int32) (v2 : Int32) (v3 : Int32) (v4 : Int32) (I : e_I) : Option (e_I) :=
  if v1 = 0 then (
    e_b1 (f_X2_putOut v4 I) (fun (I_2 : e_I) =>
    f_X2_move_187 I_2))
  else (
  if v1 = 1 then (
    e_b1 (f_X2_walk I) (fun (I_4 : e_I) =>
    f_X2_move_187 I_4))
  else (
  if v1 = 2 then (
    e_b1 (f_X2_comeOn v2 I) (fun (I_6 : e_I) =>
    e_let (e_ui I_6 12 2 ((I_6 12 2) ||| 1)) (fun (I_7 : e_I) =>
    f_X2_move_187 I_7)))
  else (
  if v1 = 3 then (
    e_b1 (f_X2_comeOn v3 I) (fun (I_9 : e_I) =>
    e_let (e_ui I_9 12 2 ((I_9 12 2) ||| 2)) (fun (I_10 : e_I) =>
    f_X2_move_187 I_10)))
  else (
  if v1 = 4 then (
    e_b1 (f_X2_comeOn 3 I) (fun (I_12 : e_I) =>
    e_let (e_ui I_12 12 2 ((I_12 12 2) ||| 4)) (fun (I_13 : e_I) =>
    f_X2_move_187 I_13)))
  else (
  if v1 = 5 then (
    e_b1 (f_X2_comeOn 3 I) (fun (I_15 : e_I) =>
    e_let (e_ui I_15 12 4 ((I_15 12 4) + 1)) (fun (I_16 : e_I) =>
    f_X2_move_187 I_16)))
  else (
  if v1 = 6 then (
    e_let (e_ui I 12 3 ((I 12 3) + 1)) (fun (I_18 : e_I) =>
    e_b1 (f_X2_comeOn 1 I_18) (fun (I_19 : e_I) =>
    f_X2_move_187 I_19)))
  else (
  if v1 = 7 then (
    e_let (e_ui I 12 2 ((I 12 2) + 1)) (fun (I_21 : e_I) =>
    f_X2_move_187 I_21))
  else (
  e_let (e_ui I 12 3 ((I 12 3) + 1)) (fun (I_22 : e_I) =>
  e_let (e_ui I_22 12 2 ((I_22 12 2) - 1)) (fun (I_23 : e_I) =>
  f_X2_move_187 I_23))))))))))
set_option maxRecDepth 100000 in
set_option maxHeartbeats 4000000 in
theorem Zf_X2_move {X : e_X} (hC : e_C X cX2_move RX2 5 none 2 gN) (v1 : Int32) (v2 : Int32) (v3 : Int32) (v4 : Int32) (I : e_I) (L : e_L) : Zo X (ph_vI L) (f_X2_move v1 v2 v3 v4 I) 0 [(0, .ref 12), (1, .int v1), (2, .int v2), (3, .int v3), (4, .int v4)] [] I L := by
  unfold f_X2_move
  refine zo_iload_n hC dX2_move_0 rfl 1 rfl ?_
  refine zo_ite (fun c_1 => ?_) (fun c_1 => ?_)
  · refine zo_tsw_in (tgt := 48) hC dX2_move_1 (by rw [c_1]; decide) (by rw [c_1]; decide) (by rw [c_1]; rfl) (by decide) ?_
    refine zo_aload_n hC dX2_move_48 rfl 0 rfl ?_
    refine zo_iload hC dX2_move_49 4 rfl ?_
    refine zo_callV_vI hC (ci := 2) [.int v4] [] me_X2_putOut mlX2_47 im_X2_putOut se_X2_putOut rfl (by decide) at_12 (fun p hp => T_X2_putOut v4 I L p hp) (by decide) rfl (Nat.le_of_ble_eq_true rfl) dX2_move_51 rfl (fun I_2 => ?_)
    refine zo_goto (tgt := 187) hC dX2_move_54 (by decide) ?_
    refine zo_sub [] (lv' := []) rfl ?_
    exact Zf_X2_move_187 hC L I_2
  refine zo_ite (fun c_3 => ?_) (fun c_3 => ?_)
  · refine zo_tsw_in (tgt := 57) hC dX2_move_1 (by rw [c_3]; decide) (by rw [c_3]; decide) (by rw [c_3]; rfl) (by decide) ?_
    refine zo_aload_n hC dX2_move_57 rfl 0 rfl ?_
    refine zo_callV_vI hC (ci := 2) [] [] me_X2_walk mlX2_51 im_X2_walk se_X2_walk rfl (by decide) at_12 (fun p hp => T_X2_walk I L p hp) (by decide) rfl (Nat.le_of_ble_eq_true rfl) dX2_move_58 rfl (fun I_4 => ?_)
    refine zo_goto (tgt := 187) hC dX2_move_61 (by decide) ?_
    refine zo_sub [] (lv' := []) rfl ?_
    exact Zf_X2_move_187 hC L I_4
  refine zo_ite (fun c_5 => ?_) (fun c_5 => ?_)
  · refine zo_tsw_in (tgt := 64) hC dX2_move_1 (by rw [c_5]; decide) (by rw [c_5]; decide) (by rw [c_5]; rfl) (by decide) ?_
    refine zo_aload_n hC dX2_move_64 rfl 0 rfl ?_
    refine zo_iload_n hC dX2_move_65 rfl 2 rfl ?_
    refine zo_callV_vI hC (ci := 2) [.int v2] [] me_X2_comeOn mlX2_54 im_X2_comeOn se_X2_comeOn rfl (by decide) at_12 (fun p hp => T_X2_comeOn v2 I L p hp) (by decide) rfl (Nat.le_of_ble_eq_true rfl) dX2_move_66 rfl (fun I_6 => ?_)
    refine zo_aload_n hC dX2_move_69 rfl 0 rfl ?_
    refine zo_dup hC rfl dX2_move_70 ?_
    refine zo_getI hC fk2_22 at_12 dX2_move_71 ?_
    refine zo_iconst (v := 1) hC (by decide) dX2_move_74 ?_
    refine zo_ior hC dX2_move_75 ?_
    refine zo_putI hC fk2_22 ff2_2 at_12 dX2_move_76 ?_
    refine zo_topI (fun I_7 => ?_)
    refine zo_goto (tgt := 187) hC dX2_move_79 (by decide) ?_
    refine zo_sub [] (lv' := []) rfl ?_
    exact Zf_X2_move_187 hC L I_7
  refine zo_ite (fun c_8 => ?_) (fun c_8 => ?_)
  · refine zo_tsw_in (tgt := 82) hC dX2_move_1 (by rw [c_8]; decide) (by rw [c_8]; decide) (by rw [c_8]; rfl) (by decide) ?_
    refine zo_aload_n hC dX2_move_82 rfl 0 rfl ?_
    refine zo_iload_n hC dX2_move_83 rfl 3 rfl ?_
    refine zo_callV_vI hC (ci := 2) [.int v3] [] me_X2_comeOn mlX2_54 im_X2_comeOn se_X2_comeOn rfl (by decide) at_12 (fun p hp => T_X2_comeOn v3 I L p hp) (by decide) rfl (Nat.le_of_ble_eq_true rfl) dX2_move_84 rfl (fun I_9 => ?_)
    refine zo_aload_n hC dX2_move_87 rfl 0 rfl ?_
    refine zo_dup hC rfl dX2_move_88 ?_
    refine zo_getI hC fk2_22 at_12 dX2_move_89 ?_
    refine zo_iconst (v := 2) hC (by decide) dX2_move_92 ?_
    refine zo_ior hC dX2_move_93 ?_
    refine zo_putI hC fk2_22 ff2_2 at_12 dX2_move_94 ?_
    refine zo_topI (fun I_10 => ?_)
    refine zo_goto (tgt := 187) hC dX2_move_97 (by decide) ?_
    refine zo_sub [] (lv' := []) rfl ?_
    exact Zf_X2_move_187 hC L I_10
  refine zo_ite (fun c_11 => ?_) (fun c_11 => ?_)
  · refine zo_tsw_in (tgt := 100) hC dX2_move_1 (by rw [c_11]; decide) (by rw [c_11]; decide) (by rw [c_11]; rfl) (by decide) ?_
    refine zo_aload_n hC dX2_move_100 rfl 0 rfl ?_
    refine zo_iconst (v := 3) hC (by decide) dX2_move_101 ?_
    refine zo_callV_vI hC (ci := 2) [.int 3] [] me_X2_comeOn mlX2_54 im_X2_comeOn se_X2_comeOn rfl (by decide) at_12 (fun p hp => T_X2_comeOn 3 I L p hp) (by decide) rfl (Nat.le_of_ble_eq_true rfl) dX2_move_102 rfl (fun I_12 => ?_)
    refine zo_aload_n hC dX2_move_105 rfl 0 rfl ?_
    refine zo_dup hC rfl dX2_move_106 ?_
    refine zo_getI hC fk2_22 at_12 dX2_move_107 ?_
    refine zo_iconst (v := 4) hC (by decide) dX2_move_110 ?_
    refine zo_ior hC dX2_move_111 ?_
    refine zo_putI hC fk2_22 ff2_2 at_12 dX2_move_112 ?_
    refine zo_topI (fun I_13 => ?_)
    refine zo_goto (tgt := 187) hC dX2_move_115 (by decide) ?_
    refine zo_sub [] (lv' := []) rfl ?_
    exact Zf_X2_move_187 hC L I_13
  refine zo_ite (fun c_14 => ?_) (fun c_14 => ?_)
  · refine zo_tsw_in (tgt := 118) hC dX2_move_1 (by rw [c_14]; decide) (by rw [c_14]; decide) (by rw [c_14]; rfl) (by decide) ?_
    refine zo_aload_n hC dX2_move_118 rfl 0 rfl ?_
    refine zo_iconst (v := 3) hC (by decide) dX2_move_119 ?_
    refine zo_callV_vI hC (ci := 2) [.int 3] [] me_X2_comeOn mlX2_54 im_X2_comeOn se_X2_comeOn rfl (by decide) at_12 (fun p hp => T_X2_comeOn 3 I L p hp) (by decide) rfl (Nat.le_of_ble_eq_true rfl) dX2_move_120 rfl (fun I_15 => ?_)
    refine zo_aload_n hC dX2_move_123 rfl 0 rfl ?_
    refine zo_dup hC rfl dX2_move_124 ?_
    refine zo_getI hC fk2_32 at_12 dX2_move_125 ?_
    refine zo_iconst (v := 1) hC (by decide) dX2_move_128 ?_
    refine zo_iadd hC dX2_move_129 ?_
    refine zo_putI hC fk2_32 ff2_4 at_12 dX2_move_130 ?_
    refine zo_topI (fun I_16 => ?_)
    refine zo_goto (tgt := 187) hC dX2_move_133 (by decide) ?_
    refine zo_sub [] (lv' := []) rfl ?_
    exact Zf_X2_move_187 hC L I_16
  refine zo_ite (fun c_17 => ?_) (fun c_17 => ?_)
  · refine zo_tsw_in (tgt := 136) hC dX2_move_1 (by rw [c_17]; decide) (by rw [c_17]; decide) (by rw [c_17]; rfl) (by decide) ?_
    refine zo_aload_n hC dX2_move_136 rfl 0 rfl ?_
    refine zo_dup hC rfl dX2_move_137 ?_
    refine zo_getI hC fk2_29 at_12 dX2_move_138 ?_
    refine zo_iconst (v := 1) hC (by decide) dX2_move_141 ?_
    refine zo_iadd hC dX2_move_142 ?_
    refine zo_putI hC fk2_29 ff2_3 at_12 dX2_move_143 ?_
    refine zo_topI (fun I_18 => ?_)
    refine zo_aload_n hC dX2_move_146 rfl 0 rfl ?_
    refine zo_iconst (v := 1) hC (by decide) dX2_move_147 ?_
    refine zo_callV_vI hC (ci := 2) [.int 1] [] me_X2_comeOn mlX2_54 im_X2_comeOn se_X2_comeOn rfl (by decide) at_12 (fun p hp => T_X2_comeOn 1 I_18 L p hp) (by decide) rfl (Nat.le_of_ble_eq_true rfl) dX2_move_148 rfl (fun I_19 => ?_)
    refine zo_goto (tgt := 187) hC dX2_move_151 (by decide) ?_
    refine zo_sub [] (lv' := []) rfl ?_
    exact Zf_X2_move_187 hC L I_19
  refine zo_ite (fun c_20 => ?_) (fun c_20 => ?_)
  · refine zo_tsw_in (tgt := 154) hC dX2_move_1 (by rw [c_20]; decide) (by rw [c_20]; decide) (by rw [c_20]; rfl) (by decide) ?_
    refine zo_aload_n hC dX2_move_154 rfl 0 rfl ?_
    refine zo_dup hC rfl dX2_move_155 ?_
    refine zo_getI hC fk2_22 at_12 dX2_move_156 ?_
    refine zo_iconst (v := 1) hC (by decide) dX2_move_159 ?_
    refine zo_iadd hC dX2_move_160 ?_
    refine zo_putI hC fk2_22 ff2_2 at_12 dX2_move_161 ?_
    refine zo_topI (fun I_21 => ?_)
    refine zo_goto (tgt := 187) hC dX2_move_164 (by decide) ?_
    refine zo_sub [] (lv' := []) rfl ?_
    exact Zf_X2_move_187 hC L I_21
  refine zo_tsw_out (tgt := 167) hC dX2_move_1 (by have q0 := e_sw (n := 0) (by decide) (by decide) c_1; have q1 := e_sw (n := 1) (by decide) (by decide) c_3; have q2 := e_sw (n := 2) (by decide) (by decide) c_5; have q3 := e_sw (n := 3) (by decide) (by decide) c_8; have q4 := e_sw (n := 4) (by decide) (by decide) c_11; have q5 := e_sw (n := 5) (by decide) (by decide) c_14; have q6 := e_sw (n := 6) (by decide) (by decide) c_17; have q7 := e_sw (n := 7) (by decide) (by decide) c_20; omega) (by decide) ?_
  refine zo_aload_n hC dX2_move_167 rfl 0 rfl ?_
  refine zo_dup hC rfl dX2_move_168 ?_
  refine zo_getI hC fk2_29 at_12 dX2_move_169 ?_
  refine zo_iconst (v := 1) hC (by decide) dX2_move_172 ?_
  refine zo_iadd hC dX2_move_173 ?_
  refine zo_putI hC fk2_29 ff2_3 at_12 dX2_move_174 ?_
  refine zo_topI (fun I_22 => ?_)
  refine zo_aload_n hC dX2_move_177 rfl 0 rfl ?_
  refine zo_dup hC rfl dX2_move_178 ?_
  refine zo_getI hC fk2_22 at_12 dX2_move_179 ?_
  refine zo_iconst (v := 1) hC (by decide) dX2_move_182 ?_
  refine zo_isub hC dX2_move_183 ?_
  refine zo_putI hC fk2_22 ff2_2 at_12 dX2_move_184 ?_
  refine zo_topI (fun I_23 => ?_)
  refine zo_sub [] (lv' := []) rfl ?_
  exact Zf_X2_move_187 hC L I_23

theorem T_X2_move (v1 : Int32) (v2 : Int32) (v3 : Int32) (v4 : Int32) (I : e_I) (L : e_L) (p : e_I) (hp : f_X2_move v1 v2 v3 v4 I = some p) : Mt yX2_move cX2_move 5 none 2 gN [.ref 12, .int v1, .int v2, .int v3, .int v4] I L ((ph_vI L) p) := zo_enter hp (by decide) (Nat.le_of_ble_eq_true rfl) (fun X hC => Zf_X2_move hC v1 v2 v3 v4 I L)
def f_X2_fit_110 (v1 : Int32) (v2 : Int32) (v3 : Int32) (v4 : Int32) (k13 : Int32 → e_I → Option (e_I)) (k134 : e_I → Option (e_I)) (v5 : Int32) (s0 : Int32) (s1 : Int32) (I : e_I) : Option (e_I) :=
  e_as (e_ix s1 216 = true) (
  e_let (e_ui I 13 s1.toNatClampNeg s0) (fun (I_2 : e_I) =>
  e_as (e_ix ((v4 * 24) + v5) 216 = true) (
  e_let (e_ui I_2 14 ((v4 * 24) + v5).toNatClampNeg (I_2 12 4)) (fun (I_4 : e_I) =>
  e_let (v5 + 1) (fun (x_5 : Int32) =>
  k13 x_5 I_4)))))
set_option maxRecDepth 100000 in
set_option maxHeartbeats 4000000 in
theorem Zf_X2_fit_110 {X : e_X} (hC : e_C X cX2_fit RX2 7 none 3 gN) (L : e_L) (v1 : Int32) (v2 : Int32) (v3 : Int32) (v4 : Int32) (k13 : Int32 → e_I → Option (e_I)) (k134 : e_I → Option (e_I)) (hk13 : ∀ (v5 : Int32) (I : e_I), Zo X (ph_vI L) (k13 v5 I) 13 [(0, .ref 12), (1, .int v1), (2, .int v2), (3, .int v3), (4, .int v4), (5, .int v5)] [] I L) (hk134 : ∀ (I : e_I), Zo X (ph_vI L) (k134 I) 134 [(0, .ref 12), (1, .int v1), (2, .int v2), (3, .int v3), (4, .int v4)] [] I L) (v5 : Int32) (s0 : Int32) (s1 : Int32) (I : e_I) : Zo X (ph_vI L) (f_X2_fit_110 v1 v2 v3 v4 k13 k134 v5 s0 s1 I) 110 [(0, .ref 12), (1, .int v1), (2, .int v2), (3, .int v3), (4, .int v4), (5, .int v5)] [.int s0, .int s1, .ref 13] I L := by
  unfold f_X2_fit_110
  refine zo_as (fun h_1 => ?_)
  refine zo_iast hC ar_13 (e_ix_vp h_1) dX2_fit_110 ?_
  refine zo_topI (fun I_2 => ?_)
  refine zo_aload_n hC dX2_fit_111 rfl 0 rfl ?_
  refine zo_getR hC (r := 14) fk2_15 (by decide) gr_12_1 at_12 dX2_fit_112 ?_
  refine zo_iload hC dX2_fit_115 4 rfl ?_
  refine zo_bipush (v := 24) hC (by decide) dX2_fit_117 ?_
  refine zo_imul hC dX2_fit_119 ?_
  refine zo_iload hC dX2_fit_120 5 rfl ?_
  refine zo_iadd hC dX2_fit_122 ?_
  refine zo_aload_n hC dX2_fit_123 rfl 0 rfl ?_
  refine zo_getI hC fk2_32 at_12 dX2_fit_124 ?_
  refine zo_as (fun h_3 => ?_)
  refine zo_iast hC ar_14 (e_ix_vp h_3) dX2_fit_127 ?_
  refine zo_topI (fun I_4 => ?_)
  refine zo_iinc hC (x := v5) (fun x_5 => [(5, .int x_5), (0, .ref 12), (1, .int v1), (2, .int v2), (3, .int v3), (4, .int v4)]) dX2_fit_128 5 rfl (by rfl) (by decide) (fun _ => rfl) (fun x_5 => ?_)
  refine zo_goto (tgt := 13) hC dX2_fit_131 (by decide) ?_
  refine zo_sub [1, 2, 3, 4, 5, 0] (lv' := [(0, .ref 12), (1, .int v1), (2, .int v2), (3, .int v3), (4, .int v4), (5, .int x_5)]) rfl ?_
  exact hk13 x_5 I_4

def f_X2_fit_65 (v1 : Int32) (v2 : Int32) (v3 : Int32) (v4 : Int32) (k13 : Int32 → e_I → Option (e_I)) (k134 : e_I → Option (e_I)) (v5 : Int32) (v6 : Int32) (I : e_I) : Option (e_I) :=
  if v6 ≠ 0 then (
    if (I 12 3) ≤ 2 then (
      e_b1 (f_X7_stateOf (I 12 2) (I 12 3)) (fun (r_3 : Int32) =>
      f_X2_fit_110 v1 v2 v3 v4 k13 k134 v5 r_3 ((v4 * 24) + v5) I))
    else (
      f_X2_fit_110 v1 v2 v3 v4 k13 k134 v5 24 ((v4 * 24) + v5) I))
  else (
    f_X2_fit_110 v1 v2 v3 v4 k13 k134 v5 (-1) ((v4 * 24) + v5) I)
set_option maxRecDepth 100000 in
set_option maxHeartbeats 4000000 in
theorem Zf_X2_fit_65 {X : e_X} (hC : e_C X cX2_fit RX2 7 none 3 gN) (L : e_L) (v1 : Int32) (v2 : Int32) (v3 : Int32) (v4 : Int32) (k13 : Int32 → e_I → Option (e_I)) (k134 : e_I → Option (e_I)) (hk13 : ∀ (v5 : Int32) (I : e_I), Zo X (ph_vI L) (k13 v5 I) 13 [(0, .ref 12), (1, .int v1), (2, .int v2), (3, .int v3), (4, .int v4), (5, .int v5)] [] I L) (hk134 : ∀ (I : e_I), Zo X (ph_vI L) (k134 I) 134 [(0, .ref 12), (1, .int v1), (2, .int v2), (3, .int v3), (4, .int v4)] [] I L) (v5 : Int32) (v6 : Int32) (I : e_I) : Zo X (ph_vI L) (f_X2_fit_65 v1 v2 v3 v4 k13 k134 v5 v6 I) 65 [(0, .ref 12), (1, .int v1), (2, .int v2), (3, .int v3), (4, .int v4), (5, .int v5), (6, .int v6)] [] I L := by
  unfold f_X2_fit_65
  refine zo_aload_n hC dX2_fit_65 rfl 0 rfl ?_
  refine zo_getR hC (r := 13) fk2_9 (by decide) gr_12_0 at_12 dX2_fit_66 ?_
  refine zo_iload hC dX2_fit_69 4 rfl ?_
  refine zo_bipush (v := 24) hC (by decide) dX2_fit_71 ?_
  refine zo_imul hC dX2_fit_73 ?_
  refine zo_iload hC dX2_fit_74 5 rfl ?_
  refine zo_iadd hC dX2_fit_76 ?_
  refine zo_iload hC dX2_fit_77 6 rfl ?_
  refine zo_if_ne (tgt := 86) hC dX2_fit_79 (by decide) (fun c_1 => ?_) (fun c_1 => ?_)
  · refine zo_aload_n hC dX2_fit_86 rfl 0 rfl ?_
    refine zo_getI hC fk2_29 at_12 dX2_fit_87 ?_
    refine zo_iconst (v := 2) hC (by decide) dX2_fit_90 ?_
    refine zo_icmp_le (tgt := 99) hC dX2_fit_91 (by decide) (fun c_2 => ?_) (fun c_2 => ?_)
    · refine zo_aload_n hC dX2_fit_99 rfl 0 rfl ?_
      refine zo_getI hC fk2_22 at_12 dX2_fit_100 ?_
      refine zo_aload_n hC dX2_fit_103 rfl 0 rfl ?_
      refine zo_getI hC fk2_29 at_12 dX2_fit_104 ?_
      refine zo_callSN_i hC [.int (I 12 2), .int (I 12 3)] [.int ((v4 * 24) + v5), .ref 13] me_X7_stateOf (List.mem_of_getElem? (i := 10) rfl) sm_X7_stateOf (fun p hp => T_X7_stateOf (I 12 2) (I 12 3) I L p hp) (by decide) rfl (Nat.le_of_ble_eq_true rfl) dX2_fit_107 rfl (fun r_3 => ?_)
      refine zo_sub [0, 1, 2, 3, 4, 5] (lv' := [(0, .ref 12), (1, .int v1), (2, .int v2), (3, .int v3), (4, .int v4), (5, .int v5)]) rfl ?_
      exact Zf_X2_fit_110 hC L v1 v2 v3 v4 k13 k134 hk13 hk134 v5 r_3 ((v4 * 24) + v5) I
    · refine zo_bipush (v := 24) hC (by decide) dX2_fit_94 ?_
      refine zo_goto (tgt := 110) hC dX2_fit_96 (by decide) ?_
      refine zo_sub [0, 1, 2, 3, 4, 5] (lv' := [(0, .ref 12), (1, .int v1), (2, .int v2), (3, .int v3), (4, .int v4), (5, .int v5)]) rfl ?_
      exact Zf_X2_fit_110 hC L v1 v2 v3 v4 k13 k134 hk13 hk134 v5 24 ((v4 * 24) + v5) I
  · refine zo_iconst (v := (-1)) hC (by decide) dX2_fit_82 ?_
    refine zo_goto (tgt := 110) hC dX2_fit_83 (by decide) ?_
    refine zo_sub [0, 1, 2, 3, 4, 5] (lv' := [(0, .ref 12), (1, .int v1), (2, .int v2), (3, .int v3), (4, .int v4), (5, .int v5)]) rfl ?_
    exact Zf_X2_fit_110 hC L v1 v2 v3 v4 k13 k134 hk13 hk134 v5 (-1) ((v4 * 24) + v5) I

def f_X2_fit_13 (v1 : Int32) (v2 : Int32) (v3 : Int32) (v4 : Int32) (k134 : e_I → Option (e_I)) : Nat → Int32 → e_I → Option (e_I)
  | 0, _, _ => none
  | n + 1, v5, I =>
    if v5 ≥ 24 then (
      k134 I)
    else (
      e_b1 (f_X7_basesOf v5) (fun (r_2 : Int32) =>
      e_let (e_ui I 12 2 r_2) (fun (I_3 : e_I) =>
      e_b1 (f_X7_outsOf v5) (fun (r_4 : Int32) =>
      e_let (e_ui I_3 12 3 r_4) (fun (I_5 : e_I) =>
      e_let (e_ui I_5 12 4 0) (fun (I_6 : e_I) =>
      e_b1 (f_X2_canBe v4 I_6) (fun (r_7 : Int32) =>
      if r_7 = 0 then (
        f_X2_fit_65 v1 v2 v3 v4 (fun v5 I => f_X2_fit_13 v1 v2 v3 v4 k134 n v5 I) k134 v5 r_7 I_6)
      else (
        e_b1 (f_X2_move v4 v1 v2 v3 I_6) (fun (I_9 : e_I) =>
        f_X2_fit_65 v1 v2 v3 v4 (fun v5 I => f_X2_fit_13 v1 v2 v3 v4 k134 n v5 I) k134 v5 r_7 I_9)))))))))
set_option maxRecDepth 100000 in
set_option maxHeartbeats 4000000 in
theorem Zf_X2_fit_13 {X : e_X} (hC : e_C X cX2_fit RX2 7 none 3 gN) (L : e_L) (v1 : Int32) (v2 : Int32) (v3 : Int32) (v4 : Int32) (k134 : e_I → Option (e_I)) (hk134 : ∀ (I : e_I), Zo X (ph_vI L) (k134 I) 134 [(0, .ref 12), (1, .int v1), (2, .int v2), (3, .int v3), (4, .int v4)] [] I L) : ∀ (n : Nat) (v5 : Int32) (I : e_I), Zo X (ph_vI L) (f_X2_fit_13 v1 v2 v3 v4 k134 n v5 I) 13 [(0, .ref 12), (1, .int v1), (2, .int v2), (3, .int v3), (4, .int v4), (5, .int v5)] [] I L := by
  intro n
  induction n with
  | zero => intro v5 I p hp; cases hp
  | succ n ih =>
    intro v5 I
    unfold f_X2_fit_13
    refine zo_iload hC dX2_fit_13 5 rfl ?_
    refine zo_bipush (v := 24) hC (by decide) dX2_fit_15 ?_
    refine zo_icmp_ge (tgt := 134) hC dX2_fit_17 (by decide) (fun c_1 => ?_) (fun c_1 => ?_)
    · refine zo_sub [0, 1, 2, 3, 4] (lv' := [(0, .ref 12), (1, .int v1), (2, .int v2), (3, .int v3), (4, .int v4)]) rfl ?_
      exact hk134 I
    · refine zo_aload_n hC dX2_fit_20 rfl 0 rfl ?_
      refine zo_iload hC dX2_fit_21 5 rfl ?_
      refine zo_callSN_i hC [.int v5] [.ref 12] me_X7_basesOf (List.mem_of_getElem? (i := 8) rfl) sm_X7_basesOf (fun p hp => T_X7_basesOf v5 I L p hp) (by decide) rfl (Nat.le_of_ble_eq_true rfl) dX2_fit_23 rfl (fun r_2 => ?_)
      refine zo_putI hC fk2_22 ff2_2 at_12 dX2_fit_26 ?_
      refine zo_topI (fun I_3 => ?_)
      refine zo_aload_n hC dX2_fit_29 rfl 0 rfl ?_
      refine zo_iload hC dX2_fit_30 5 rfl ?_
      refine zo_callSN_i hC [.int v5] [.ref 12] me_X7_outsOf (List.mem_of_getElem? (i := 9) rfl) sm_X7_outsOf (fun p hp => T_X7_outsOf v5 I_3 L p hp) (by decide) rfl (Nat.le_of_ble_eq_true rfl) dX2_fit_32 rfl (fun r_4 => ?_)
      refine zo_putI hC fk2_29 ff2_3 at_12 dX2_fit_35 ?_
      refine zo_topI (fun I_5 => ?_)
      refine zo_aload_n hC dX2_fit_38 rfl 0 rfl ?_
      refine zo_iconst (v := 0) hC (by decide) dX2_fit_39 ?_
      refine zo_putI hC fk2_32 ff2_4 at_12 dX2_fit_40 ?_
      refine zo_topI (fun I_6 => ?_)
      refine zo_aload_n hC dX2_fit_43 rfl 0 rfl ?_
      refine zo_iload hC dX2_fit_44 4 rfl ?_
      refine zo_callV_i hC (ci := 2) [.int v4] [] me_X2_canBe mlX2_35 im_X2_canBe se_X2_canBe rfl (by decide) at_12 (fun p hp => T_X2_canBe v4 I_6 L p hp) (by decide) rfl (Nat.le_of_ble_eq_true rfl) dX2_fit_46 rfl (fun r_7 => ?_)
      refine zo_istore (lv' := [(6, .int r_7), (0, .ref 12), (1, .int v1), (2, .int v2), (3, .int v3), (4, .int v4), (5, .int v5)]) hC dX2_fit_49 (by decide) rfl ?_
      refine zo_iload hC dX2_fit_51 0 rfl ?_
      refine zo_if_eq (tgt := 65) hC dX2_fit_53 (by decide) (fun c_8 => ?_) (fun c_8 => ?_)
      · refine zo_sub [1, 2, 3, 4, 5, 6, 0] (lv' := [(0, .ref 12), (1, .int v1), (2, .int v2), (3, .int v3), (4, .int v4), (5, .int v5), (6, .int r_7)]) rfl ?_
        exact Zf_X2_fit_65 hC L v1 v2 v3 v4 (fun v5 I => f_X2_fit_13 v1 v2 v3 v4 k134 n v5 I) k134 (fun v5 I => ih v5 I) hk134 v5 r_7 I_6
      · refine zo_aload_n hC dX2_fit_56 rfl 1 rfl ?_
        refine zo_iload hC dX2_fit_57 5 rfl ?_
        refine zo_iload_n hC dX2_fit_59 rfl 2 rfl ?_
        refine zo_iload_n hC dX2_fit_60 rfl 3 rfl ?_
        refine zo_iload_n hC dX2_fit_61 rfl 4 rfl ?_
        refine zo_callV_vI hC (ci := 2) [.int v4, .int v1, .int v2, .int v3] [] me_X2_move mlX2_39 im_X2_move se_X2_move rfl (by decide) at_12 (fun p hp => T_X2_move v4 v1 v2 v3 I_6 L p hp) (by decide) rfl (Nat.le_of_ble_eq_true rfl) dX2_fit_62 rfl (fun I_9 => ?_)
        refine zo_sub [1, 2, 3, 4, 5, 6, 0] (lv' := [(0, .ref 12), (1, .int v1), (2, .int v2), (3, .int v3), (4, .int v4), (5, .int v5), (6, .int r_7)]) rfl ?_
        exact Zf_X2_fit_65 hC L v1 v2 v3 v4 (fun v5 I => f_X2_fit_13 v1 v2 v3 v4 k134 n v5 I) k134 (fun v5 I => ih v5 I) hk134 v5 r_7 I_9

def f_X2_fit_3 (v1 : Int32) (v2 : Int32) (v3 : Int32) (k140 : e_I → Option (e_I)) : Nat → Int32 → e_I → Option (e_I)
  | 0, _, _ => none
  | n + 1, v4, I =>
    if v4 ≥ 9 then (
      k140 I)
    else (
      f_X2_fit_13 v1 v2 v3 v4 (fun (I_2 : e_I) =>
        e_let (v4 + 1) (fun (x_3 : Int32) =>
        f_X2_fit_3 v1 v2 v3 k140 n x_3 I_2)) e_FU 0 I)
set_option maxRecDepth 100000 in
set_option maxHeartbeats 4000000 in
theorem Zf_X2_fit_3 {X : e_X} (hC : e_C X cX2_fit RX2 7 none 3 gN) (L : e_L) (v1 : Int32) (v2 : Int32) (v3 : Int32) (k140 : e_I → Option (e_I)) (hk140 : ∀ (I : e_I), Zo X (ph_vI L) (k140 I) 140 [] [] I L) : ∀ (n : Nat) (v4 : Int32) (I : e_I), Zo X (ph_vI L) (f_X2_fit_3 v1 v2 v3 k140 n v4 I) 3 [(0, .ref 12), (1, .int v1), (2, .int v2), (3, .int v3), (4, .int v4)] [] I L := by
  intro n
  induction n with
  | zero => intro v4 I p hp; cases hp
  | succ n ih =>
    intro v4 I
    unfold f_X2_fit_3
    refine zo_iload hC dX2_fit_3 4 rfl ?_
    refine zo_bipush (v := 9) hC (by decide) dX2_fit_5 ?_
    refine zo_icmp_ge (tgt := 140) hC dX2_fit_7 (by decide) (fun c_1 => ?_) (fun c_1 => ?_)
    · refine zo_sub [] (lv' := []) rfl ?_
      exact hk140 I
    · refine zo_iconst (v := 0) hC (by decide) dX2_fit_10 ?_
      refine zo_istore (lv' := [(5, .int 0), (0, .ref 12), (1, .int v1), (2, .int v2), (3, .int v3), (4, .int v4)]) hC dX2_fit_11 (by decide) rfl ?_
      refine zo_sub [1, 2, 3, 4, 5, 0] (lv' := [(0, .ref 12), (1, .int v1), (2, .int v2), (3, .int v3), (4, .int v4), (5, .int 0)]) rfl ?_
      refine Zf_X2_fit_13 hC L v1 v2 v3 v4 _ (fun I_2 => ?_) e_FU 0 I
      · refine zo_iinc hC (x := v4) (fun x_3 => [(4, .int x_3), (0, .ref 12), (1, .int v1), (2, .int v2), (3, .int v3)]) dX2_fit_134 4 rfl (by rfl) (by decide) (fun _ => rfl) (fun x_3 => ?_)
        refine zo_goto (tgt := 3) hC dX2_fit_137 (by decide) ?_
        refine zo_sub [1, 2, 3, 4, 0] (lv' := [(0, .ref 12), (1, .int v1), (2, .int v2), (3, .int v3), (4, .int x_3)]) rfl ?_
        exact ih x_3 I_2

def f_X2_fit (v1 : Int32) (v2 : Int32) (v3 : Int32) (I : e_I) : Option (e_I) :=
  f_X2_fit_3 v1 v2 v3 (fun (I_1 : e_I) =>
    some I_1) e_FU 0 I
set_option maxRecDepth 100000 in
set_option maxHeartbeats 4000000 in
theorem Zf_X2_fit {X : e_X} (hC : e_C X cX2_fit RX2 7 none 3 gN) (v1 : Int32) (v2 : Int32) (v3 : Int32) (I : e_I) (L : e_L) : Zo X (ph_vI L) (f_X2_fit v1 v2 v3 I) 0 [(0, .ref 12), (1, .int v1), (2, .int v2), (3, .int v3)] [] I L := by
  unfold f_X2_fit
  refine zo_iconst (v := 0) hC (by decide) dX2_fit_0 ?_
  refine zo_istore (lv' := [(4, .int 0), (0, .ref 12), (1, .int v1), (2, .int v2), (3, .int v3)]) hC dX2_fit_1 (by decide) rfl ?_
  refine zo_sub [1, 2, 3, 4, 0] (lv' := [(0, .ref 12), (1, .int v1), (2, .int v2), (3, .int v3), (4, .int 0)]) rfl ?_
  refine Zf_X2_fit_3 hC L v1 v2 v3 _ (fun I_1 => ?_) e_FU 0 I
  · exact zo_vret hC rfl dX2_fit_140

theorem T_X2_fit (v1 : Int32) (v2 : Int32) (v3 : Int32) (I : e_I) (L : e_L) (p : e_I) (hp : f_X2_fit v1 v2 v3 I = some p) : Mt yX2_fit cX2_fit 7 none 3 gN [.ref 12, .int v1, .int v2, .int v3] I L ((ph_vI L) p) := zo_enter hp (by decide) (Nat.le_of_ble_eq_true rfl) (fun X hC => Zf_X2_fit hC v1 v2 v3 I L)
def f_X7_fitMoves (I : e_I) : Option (e_I) :=
  e_b1 (f_X0_ruled 23 0 I) (fun (r_1 : Int32) =>
  e_b1 (f_X0_ruled 23 1 I) (fun (r_2 : Int32) =>
  e_b1 (f_X0_ruled 23 2 I) (fun (r_3 : Int32) =>
  e_b1 (f_X2_fit r_1 r_2 r_3 I) (fun (I_4 : e_I) =>
  some I_4))))
set_option maxRecDepth 100000 in
set_option maxHeartbeats 4000000 in
theorem Zf_X7_fitMoves {X : e_X} (hC : e_C X cX7_fitMoves RX7 1 none 4 gN) (I : e_I) (L : e_L) : Zo X (ph_vI L) (f_X7_fitMoves I) 0 [(0, .ref 0)] [] I L := by
  unfold f_X7_fitMoves
  refine zo_aload_n hC dX7_fitMoves_0 rfl 0 rfl ?_
  refine zo_getR hC (r := 11) fk7_40 (by decide) gr_0_5 at_0 dX7_fitMoves_1 ?_
  refine zo_getR hC (r := 12) fk7_181 (by decide) gr_11_0 at_11 dX7_fitMoves_4 ?_
  refine zo_aload_n hC dX7_fitMoves_7 rfl 0 rfl ?_
  refine zo_getR hC (r := 23) fk7_23 (by decide) gr_0_2 at_0 dX7_fitMoves_8 ?_
  refine zo_iconst (v := 0) hC (by decide) dX7_fitMoves_11 ?_
  refine zo_callV_i hC (ci := 0) [.int 0] [.ref 12] me_X0_ruled mlX7_139 im_X0_ruled se_X0_ruled rfl (by decide) at_23 (fun p hp => T_X0_ruled 23 isG_23 0 I L p hp) (by decide) rfl (Nat.le_of_ble_eq_true rfl) dX7_fitMoves_12 rfl (fun r_1 => ?_)
  refine zo_aload_n hC dX7_fitMoves_15 rfl 0 rfl ?_
  refine zo_getR hC (r := 23) fk7_23 (by decide) gr_0_2 at_0 dX7_fitMoves_16 ?_
  refine zo_iconst (v := 1) hC (by decide) dX7_fitMoves_19 ?_
  refine zo_callV_i hC (ci := 0) [.int 1] [.int r_1, .ref 12] me_X0_ruled mlX7_139 im_X0_ruled se_X0_ruled rfl (by decide) at_23 (fun p hp => T_X0_ruled 23 isG_23 1 I L p hp) (by decide) rfl (Nat.le_of_ble_eq_true rfl) dX7_fitMoves_20 rfl (fun r_2 => ?_)
  refine zo_aload_n hC dX7_fitMoves_23 rfl 0 rfl ?_
  refine zo_getR hC (r := 23) fk7_23 (by decide) gr_0_2 at_0 dX7_fitMoves_24 ?_
  refine zo_iconst (v := 2) hC (by decide) dX7_fitMoves_27 ?_
  refine zo_callV_i hC (ci := 0) [.int 2] [.int r_2, .int r_1, .ref 12] me_X0_ruled mlX7_139 im_X0_ruled se_X0_ruled rfl (by decide) at_23 (fun p hp => T_X0_ruled 23 isG_23 2 I L p hp) (by decide) rfl (Nat.le_of_ble_eq_true rfl) dX7_fitMoves_28 rfl (fun r_3 => ?_)
  refine zo_callV_vI hC (ci := 2) [.int r_1, .int r_2, .int r_3] [] me_X2_fit mlX7_362 im_X2_fit se_X2_fit rfl (by decide) at_12 (fun p hp => T_X2_fit r_1 r_2 r_3 I L p hp) (by decide) rfl (Nat.le_of_ble_eq_true rfl) dX7_fitMoves_31 rfl (fun I_4 => ?_)
  exact zo_vret hC rfl dX7_fitMoves_34

theorem T_X7_fitMoves (I : e_I) (L : e_L) (p : e_I) (hp : f_X7_fitMoves I = some p) : Mt yX7_fitMoves cX7_fitMoves 1 none 4 gN [.ref 0] I L ((ph_vI L) p) := zo_enter hp (by decide) (Nat.le_of_ble_eq_true rfl) (fun X hC => Zf_X7_fitMoves hC I L)
def f_X7_refused_14 (s0 : Int32) (I : e_I) : Option (Int32 × e_I) :=
  e_as (s0 = 0 ∨ s0 = 1) (
  some (s0, I))
set_option maxRecDepth 100000 in
set_option maxHeartbeats 4000000 in
theorem Zf_X7_refused_14 {X : e_X} (hC : e_C X cX7_refused RX7 2 (some .boolean) 0 gN) (L : e_L) (s0 : Int32) (I : e_I) : Zo X (ph_iI L) (f_X7_refused_14 s0 I) 14 [] [.int s0] I L := by
  unfold f_X7_refused_14
  refine zo_as (fun h_1 => ?_)
  exact zo_zret hC h_1 rfl dX7_refused_14

def f_X7_refused (v1 : Int32) (I : e_I) : Option (Int32 × e_I) :=
  e_let (e_ui I 0 8 v1) (fun (I_1 : e_I) =>
  if v1 = 0 then (
    f_X7_refused_14 0 I_1)
  else (
    f_X7_refused_14 1 I_1))
set_option maxRecDepth 100000 in
set_option maxHeartbeats 4000000 in
theorem Zf_X7_refused {X : e_X} (hC : e_C X cX7_refused RX7 2 (some .boolean) 0 gN) (v1 : Int32) (I : e_I) (L : e_L) : Zo X (ph_iI L) (f_X7_refused v1 I) 0 [(0, .ref 0), (1, .int v1)] [] I L := by
  unfold f_X7_refused
  refine zo_aload_n hC dX7_refused_0 rfl 0 rfl ?_
  refine zo_iload_n hC dX7_refused_1 rfl 1 rfl ?_
  refine zo_putI hC fk7_107 ff7_8 at_0 dX7_refused_2 ?_
  refine zo_topI (fun I_1 => ?_)
  refine zo_iload_n hC dX7_refused_5 rfl 1 rfl ?_
  refine zo_if_eq (tgt := 13) hC dX7_refused_6 (by decide) (fun c_2 => ?_) (fun c_2 => ?_)
  · refine zo_iconst (v := 0) hC (by decide) dX7_refused_13 ?_
    refine zo_sub [] (lv' := []) rfl ?_
    exact Zf_X7_refused_14 hC L 0 I_1
  · refine zo_iconst (v := 1) hC (by decide) dX7_refused_9 ?_
    refine zo_goto (tgt := 14) hC dX7_refused_10 (by decide) ?_
    refine zo_sub [] (lv' := []) rfl ?_
    exact Zf_X7_refused_14 hC L 1 I_1

theorem T_X7_refused (v1 : Int32) (I : e_I) (L : e_L) (p : Int32 × e_I) (hp : f_X7_refused v1 I = some p) : Mt yX7_refused cX7_refused 2 (some .boolean) 0 gN [.ref 0, .int v1] I L ((ph_iI L) p) := zo_enter hp (by decide) (Nat.le_of_ble_eq_true rfl) (fun X hC => Zf_X7_refused hC v1 I L)
def f_X0_beginAnew (g : Nat) (I : e_I) : Option (e_I) :=
  e_let (e_ui I g 1 1) (fun (I_1 : e_I) =>
  e_let (e_ui I_1 g 2 0) (fun (I_2 : e_I) =>
  e_let (e_ui I_2 g 3 0) (fun (I_3 : e_I) =>
  e_let (e_ui I_3 g 4 (I_3 (g + 3) (0 : Int32).toNatClampNeg)) (fun (I_4 : e_I) =>
  e_let (e_ui I_4 g 5 0) (fun (I_5 : e_I) =>
  e_let (e_ui I_5 g 6 0) (fun (I_6 : e_I) =>
  e_let (e_ui I_6 g 7 0) (fun (I_7 : e_I) =>
  some I_7)))))))
set_option maxRecDepth 100000 in
set_option maxHeartbeats 4000000 in
theorem Zf_X0_beginAnew {X : e_X} (hC : e_C X cX0_beginAnew RX0 1 none 0 gN) (g : Nat) (hg : e_isG g) (I : e_I) (L : e_L) : Zo X (ph_vI L) (f_X0_beginAnew g I) 0 [(0, .ref g)] [] I L := by
  unfold f_X0_beginAnew
  refine zo_aload_n hC dX0_beginAnew_0 rfl 0 rfl ?_
  refine zo_iconst (v := 1) hC (by decide) dX0_beginAnew_1 ?_
  refine zo_putI hC fk0_42 ff0_1 (atG hg) dX0_beginAnew_2 ?_
  refine zo_topI (fun I_1 => ?_)
  refine zo_aload_n hC dX0_beginAnew_5 rfl 0 rfl ?_
  refine zo_iconst (v := 0) hC (by decide) dX0_beginAnew_6 ?_
  refine zo_putI hC fk0_45 ff0_2 (atG hg) dX0_beginAnew_7 ?_
  refine zo_topI (fun I_2 => ?_)
  refine zo_aload_n hC dX0_beginAnew_10 rfl 0 rfl ?_
  refine zo_iconst (v := 0) hC (by decide) dX0_beginAnew_11 ?_
  refine zo_putI hC fk0_48 ff0_3 (atG hg) dX0_beginAnew_12 ?_
  refine zo_topI (fun I_3 => ?_)
  refine zo_aload_n hC dX0_beginAnew_15 rfl 0 rfl ?_
  refine zo_aload_n hC dX0_beginAnew_16 rfl 0 rfl ?_
  refine zo_getR hC (r := (g + 3)) fk0_18 (by decide) (grG10 hg) (atG hg) dX0_beginAnew_17 ?_
  refine zo_iconst (v := 0) hC (by decide) dX0_beginAnew_20 ?_
  refine zo_iald hC (arG3 hg) (e_ix_vp (by decide)) dX0_beginAnew_21 ?_
  refine zo_putI hC fk0_51 ff0_4 (atG hg) dX0_beginAnew_22 ?_
  refine zo_topI (fun I_4 => ?_)
  refine zo_aload_n hC dX0_beginAnew_25 rfl 0 rfl ?_
  refine zo_iconst (v := 0) hC (by decide) dX0_beginAnew_26 ?_
  refine zo_putI hC fk0_54 ff0_5 (atG hg) dX0_beginAnew_27 ?_
  refine zo_topI (fun I_5 => ?_)
  refine zo_aload_n hC dX0_beginAnew_30 rfl 0 rfl ?_
  refine zo_iconst (v := 0) hC (by decide) dX0_beginAnew_31 ?_
  refine zo_putI hC fk0_57 ff0_6 (atG hg) dX0_beginAnew_32 ?_
  refine zo_topI (fun I_6 => ?_)
  refine zo_aload_n hC dX0_beginAnew_35 rfl 0 rfl ?_
  refine zo_iconst (v := 0) hC (by decide) dX0_beginAnew_36 ?_
  refine zo_putI hC fk0_60 ff0_7 (atG hg) dX0_beginAnew_37 ?_
  refine zo_topI (fun I_7 => ?_)
  exact zo_vret hC rfl dX0_beginAnew_40

theorem T_X0_beginAnew (g : Nat) (hg : e_isG g) (I : e_I) (L : e_L) (p : e_I) (hp : f_X0_beginAnew g I = some p) : Mt yX0_beginAnew cX0_beginAnew 1 none 0 gN [.ref g] I L ((ph_vI L) p) := zo_enter hp (by decide) (Nat.le_of_ble_eq_true rfl) (fun X hC => Zf_X0_beginAnew hC g hg I L)
def f_X0_openWith_39 (g : Nat) (k58 : e_I → Option (e_I)) : Nat → Int32 → e_I → Option (e_I)
  | 0, _, _ => none
  | n + 1, v2, I =>
    if v2 ≥ 9 then (
      k58 I)
    else (
      e_as (e_ix v2 9 = true) (
      e_let (e_ui I (g + 3) v2.toNatClampNeg v2) (fun (I_3 : e_I) =>
      e_let (v2 + 1) (fun (x_4 : Int32) =>
      f_X0_openWith_39 g k58 n x_4 I_3))))
set_option maxRecDepth 100000 in
set_option maxHeartbeats 4000000 in
theorem Zf_X0_openWith_39 {X : e_X} (hC : e_C X cX0_openWith RX0 3 none 1 gN) (g : Nat) (hg : e_isG g) (L : e_L) (k58 : e_I → Option (e_I)) (hk58 : ∀ (I : e_I), Zo X (ph_vI L) (k58 I) 58 [(0, .ref g)] [] I L) : ∀ (n : Nat) (v2 : Int32) (I : e_I), Zo X (ph_vI L) (f_X0_openWith_39 g k58 n v2 I) 39 [(0, .ref g), (2, .int v2)] [] I L := by
  intro n
  induction n with
  | zero => intro v2 I p hp; cases hp
  | succ n ih =>
    intro v2 I
    unfold f_X0_openWith_39
    refine zo_iload_n hC dX0_openWith_39 rfl 1 rfl ?_
    refine zo_bipush (v := 9) hC (by decide) dX0_openWith_40 ?_
    refine zo_icmp_ge (tgt := 58) hC dX0_openWith_42 (by decide) (fun c_1 => ?_) (fun c_1 => ?_)
    · refine zo_sub [0] (lv' := [(0, .ref g)]) rfl ?_
      exact hk58 I
    · refine zo_aload_n hC dX0_openWith_45 rfl 0 rfl ?_
      refine zo_getR hC (r := (g + 3)) fk0_18 (by decide) (grG10 hg) (atG hg) dX0_openWith_46 ?_
      refine zo_iload_n hC dX0_openWith_49 rfl 1 rfl ?_
      refine zo_iload_n hC dX0_openWith_50 rfl 1 rfl ?_
      refine zo_as (fun h_2 => ?_)
      refine zo_iast hC (arG3 hg) (e_ix_vp h_2) dX0_openWith_51 ?_
      refine zo_topI (fun I_3 => ?_)
      refine zo_iinc hC (x := v2) (fun x_4 => [(2, .int x_4), (0, .ref g)]) dX0_openWith_52 1 rfl (by rfl) (by decide) (fun _ => rfl) (fun x_4 => ?_)
      refine zo_goto (tgt := 39) hC dX0_openWith_55 (by decide) ?_
      refine zo_sub [1, 0] (lv' := [(0, .ref g), (2, .int x_4)]) rfl ?_
      exact ih x_4 I_3

def f_X0_openWith (g : Nat) (I : e_I) : Option (e_I) :=
  e_let (e_ui I g 0 (I 1 4)) (fun (I_1 : e_I) =>
  e_let (e_cpy I_1 3 ((0 : Int32).toNatClampNeg) (g + 1) ((0 : Int32).toNatClampNeg) ((54 : Int32).toNatClampNeg)) (fun (I_2 : e_I) =>
  e_let (e_cpy I_2 4 ((0 : Int32).toNatClampNeg) (g + 2) ((0 : Int32).toNatClampNeg) ((5 : Int32).toNatClampNeg)) (fun (I_3 : e_I) =>
  f_X0_openWith_39 g (fun (I_4 : e_I) =>
    e_b1 (f_X0_beginAnew g I_4) (fun (I_5 : e_I) =>
    some I_5)) e_FU 0 I_3)))
set_option maxRecDepth 100000 in
set_option maxHeartbeats 4000000 in
theorem Zf_X0_openWith {X : e_X} (hC : e_C X cX0_openWith RX0 3 none 1 gN) (g : Nat) (hg : e_isG g) (I : e_I) (L : e_L) : Zo X (ph_vI L) (f_X0_openWith g I) 0 [(0, .ref g), (1, .ref 1)] [] I L := by
  unfold f_X0_openWith
  refine zo_aload_n hC dX0_openWith_0 rfl 0 rfl ?_
  refine zo_aload_n hC dX0_openWith_1 rfl 1 rfl ?_
  refine zo_getI hC fk0_24 at_1 dX0_openWith_2 ?_
  refine zo_putI hC fk0_30 ff0_0 (atG hg) dX0_openWith_5 ?_
  refine zo_topI (fun I_1 => ?_)
  refine zo_aload_n hC dX0_openWith_8 rfl 1 rfl ?_
  refine zo_getR hC (r := 3) fk0_31 (by decide) gr_1_1 at_1 dX0_openWith_9 ?_
  refine zo_iconst (v := 0) hC (by decide) dX0_openWith_12 ?_
  refine zo_aload_n hC dX0_openWith_13 rfl 0 rfl ?_
  refine zo_getR hC (r := (g + 1)) fk0_9 (by decide) (grG8 hg) (atG hg) dX0_openWith_14 ?_
  refine zo_iconst (v := 0) hC (by decide) dX0_openWith_17 ?_
  refine zo_bipush (v := 54) hC (by decide) dX0_openWith_18 ?_
  refine zo_copyi hC mlX0_32 na_copy st_copy in_Sys ar_3 (arG1 hg) (by decide) (by decide) (by decide) (by decide) (by decide) (Nat.le_of_ble_eq_true rfl) dX0_openWith_20 ?_
  refine zo_topI (fun I_2 => ?_)
  refine zo_aload_n hC dX0_openWith_23 rfl 1 rfl ?_
  refine zo_getR hC (r := 4) fk0_38 (by decide) gr_1_2 at_1 dX0_openWith_24 ?_
  refine zo_iconst (v := 0) hC (by decide) dX0_openWith_27 ?_
  refine zo_aload_n hC dX0_openWith_28 rfl 0 rfl ?_
  refine zo_getR hC (r := (g + 2)) fk0_15 (by decide) (grG9 hg) (atG hg) dX0_openWith_29 ?_
  refine zo_iconst (v := 0) hC (by decide) dX0_openWith_32 ?_
  refine zo_iconst (v := 5) hC (by decide) dX0_openWith_33 ?_
  refine zo_copyi hC mlX0_32 na_copy st_copy in_Sys ar_4 (arG2 hg) (by decide) (by decide) (by decide) (by decide) (by decide) (Nat.le_of_ble_eq_true rfl) dX0_openWith_34 ?_
  refine zo_topI (fun I_3 => ?_)
  refine zo_iconst (v := 0) hC (by decide) dX0_openWith_37 ?_
  refine zo_istore_n (lv' := [(2, .int 0), (0, .ref g), (1, .ref 1)]) hC dX0_openWith_38 rfl (by decide) rfl ?_
  refine zo_sub [1, 0] (lv' := [(0, .ref g), (2, .int 0)]) rfl ?_
  refine Zf_X0_openWith_39 hC g hg L _ (fun I_4 => ?_) e_FU 0 I_3
  · refine zo_aload_n hC dX0_openWith_58 rfl 0 rfl ?_
    refine zo_callV_vI hC (ci := 0) [] [] me_X0_beginAnew mlX0_39 im_X0_beginAnew se_X0_beginAnew rfl (by decide) (atG hg) (fun p hp => T_X0_beginAnew g hg I_4 L p hp) (by decide) rfl (Nat.le_of_ble_eq_true rfl) dX0_openWith_59 rfl (fun I_5 => ?_)
    exact zo_vret hC rfl dX0_openWith_62

theorem T_X0_openWith (g : Nat) (hg : e_isG g) (I : e_I) (L : e_L) (p : e_I) (hp : f_X0_openWith g I = some p) : Mt yX0_openWith cX0_openWith 3 none 1 gN [.ref g, .ref 1] I L ((ph_vI L) p) := zo_enter hp (by decide) (Nat.le_of_ble_eq_true rfl) (fun X hC => Zf_X0_openWith hC g hg I L)
def f_X4_forget (I : e_I) : Option (e_I) :=
  e_let (e_ui I 9 2 0) (fun (I_1 : e_I) =>
  some I_1)
set_option maxRecDepth 100000 in
set_option maxHeartbeats 4000000 in
theorem Zf_X4_forget {X : e_X} (hC : e_C X cX4_forget RX4 1 none 0 gN) (I : e_I) (L : e_L) : Zo X (ph_vI L) (f_X4_forget I) 0 [(0, .ref 9)] [] I L := by
  unfold f_X4_forget
  refine zo_aload_n hC dX4_forget_0 rfl 0 rfl ?_
  refine zo_iconst (v := 0) hC (by decide) dX4_forget_1 ?_
  refine zo_putI hC fk4_18 ff4_2 at_9 dX4_forget_2 ?_
  refine zo_topI (fun I_1 => ?_)
  exact zo_vret hC rfl dX4_forget_5

theorem T_X4_forget (I : e_I) (L : e_L) (p : e_I) (hp : f_X4_forget I = some p) : Mt yX4_forget cX4_forget 1 none 0 gN [.ref 9] I L ((ph_vI L) p) := zo_enter hp (by decide) (Nat.le_of_ble_eq_true rfl) (fun X hC => Zf_X4_forget hC I L)
def f_X6_blame (v1 : Int32) (I : e_I) : Option (Int32 × e_I) :=
  e_let (e_ui I 1 13 v1) (fun (I_1 : e_I) =>
  some (0, I_1))
set_option maxRecDepth 100000 in
set_option maxHeartbeats 4000000 in
theorem Zf_X6_blame {X : e_X} (hC : e_C X cX6_blame RX6 2 (some .boolean) 0 gN) (v1 : Int32) (I : e_I) (L : e_L) : Zo X (ph_iI L) (f_X6_blame v1 I) 0 [(0, .ref 1), (1, .int v1)] [] I L := by
  unfold f_X6_blame
  refine zo_aload_n hC dX6_blame_0 rfl 0 rfl ?_
  refine zo_iload_n hC dX6_blame_1 rfl 1 rfl ?_
  refine zo_putI hC fk6_66 ff6_13 at_1 dX6_blame_2 ?_
  refine zo_topI (fun I_1 => ?_)
  refine zo_iconst (v := 0) hC (by decide) dX6_blame_5 ?_
  exact zo_zret hC (by decide) rfl dX6_blame_6

theorem T_X6_blame (v1 : Int32) (I : e_I) (L : e_L) (p : Int32 × e_I) (hp : f_X6_blame v1 I = some p) : Mt yX6_blame cX6_blame 2 (some .boolean) 0 gN [.ref 1, .int v1] I L ((ph_iI L) p) := zo_enter hp (by decide) (Nat.le_of_ble_eq_true rfl) (fun X hC => Zf_X6_blame hC v1 I L)
def f_X6_clearSheet_7 (k25 : e_I → Option (e_I)) : Nat → Int32 → e_I → Option (e_I)
  | 0, _, _ => none
  | n + 1, v1, I =>
    if v1 ≥ 5 then (
      k25 I)
    else (
      e_as (e_ix v1 5 = true) (
      e_let (e_ui I 7 v1.toNatClampNeg (vp_nar .boolean 0)) (fun (I_3 : e_I) =>
      e_let (v1 + 1) (fun (x_4 : Int32) =>
      f_X6_clearSheet_7 k25 n x_4 I_3))))
set_option maxRecDepth 100000 in
set_option maxHeartbeats 4000000 in
theorem Zf_X6_clearSheet_7 {X : e_X} (hC : e_C X cX6_clearSheet RX6 2 none 0 gN) (L : e_L) (k25 : e_I → Option (e_I)) (hk25 : ∀ (I : e_I), Zo X (ph_vI L) (k25 I) 25 [(0, .ref 1)] [] I L) : ∀ (n : Nat) (v1 : Int32) (I : e_I), Zo X (ph_vI L) (f_X6_clearSheet_7 k25 n v1 I) 7 [(0, .ref 1), (1, .int v1)] [] I L := by
  intro n
  induction n with
  | zero => intro v1 I p hp; cases hp
  | succ n ih =>
    intro v1 I
    unfold f_X6_clearSheet_7
    refine zo_iload_n hC dX6_clearSheet_7 rfl 1 rfl ?_
    refine zo_iconst (v := 5) hC (by decide) dX6_clearSheet_8 ?_
    refine zo_icmp_ge (tgt := 25) hC dX6_clearSheet_9 (by decide) (fun c_1 => ?_) (fun c_1 => ?_)
    · refine zo_sub [0] (lv' := [(0, .ref 1)]) rfl ?_
      exact hk25 I
    · refine zo_aload_n hC dX6_clearSheet_12 rfl 0 rfl ?_
      refine zo_getR hC (r := 7) fk6_44 (by decide) gr_1_8 at_1 dX6_clearSheet_13 ?_
      refine zo_iload_n hC dX6_clearSheet_16 rfl 1 rfl ?_
      refine zo_iconst (v := 0) hC (by decide) dX6_clearSheet_17 ?_
      refine zo_as (fun h_2 => ?_)
      refine zo_zast hC ar_7 (e_ix_vp h_2) dX6_clearSheet_18 ?_
      refine zo_topI (fun I_3 => ?_)
      refine zo_iinc hC (x := v1) (fun x_4 => [(1, .int x_4), (0, .ref 1)]) dX6_clearSheet_19 1 rfl (by rfl) (by decide) (fun _ => rfl) (fun x_4 => ?_)
      refine zo_goto (tgt := 7) hC dX6_clearSheet_22 (by decide) ?_
      refine zo_sub [1, 0] (lv' := [(0, .ref 1), (1, .int x_4)]) rfl ?_
      exact ih x_4 I_3

def f_X6_clearSheet (I : e_I) : Option (e_I) :=
  e_let (e_ui I 1 4 0) (fun (I_1 : e_I) =>
  f_X6_clearSheet_7 (fun (I_2 : e_I) =>
    e_let (e_ui I_2 4 (0 : Int32).toNatClampNeg 1) (fun (I_3 : e_I) =>
    e_let (e_ui I_3 4 (1 : Int32).toNatClampNeg 2) (fun (I_4 : e_I) =>
    e_let (e_ui I_4 4 (2 : Int32).toNatClampNeg 0) (fun (I_5 : e_I) =>
    e_let (e_ui I_5 4 (3 : Int32).toNatClampNeg 14) (fun (I_6 : e_I) =>
    e_let (e_ui I_6 4 (4 : Int32).toNatClampNeg 30) (fun (I_7 : e_I) =>
    some I_7)))))) e_FU 0 I_1)
set_option maxRecDepth 100000 in
set_option maxHeartbeats 4000000 in
theorem Zf_X6_clearSheet {X : e_X} (hC : e_C X cX6_clearSheet RX6 2 none 0 gN) (I : e_I) (L : e_L) : Zo X (ph_vI L) (f_X6_clearSheet I) 0 [(0, .ref 1)] [] I L := by
  unfold f_X6_clearSheet
  refine zo_aload_n hC dX6_clearSheet_0 rfl 0 rfl ?_
  refine zo_iconst (v := 0) hC (by decide) dX6_clearSheet_1 ?_
  refine zo_putI hC fk6_69 ff6_4 at_1 dX6_clearSheet_2 ?_
  refine zo_topI (fun I_1 => ?_)
  refine zo_iconst (v := 0) hC (by decide) dX6_clearSheet_5 ?_
  refine zo_istore_n (lv' := [(1, .int 0), (0, .ref 1)]) hC dX6_clearSheet_6 rfl (by decide) rfl ?_
  refine zo_sub [1, 0] (lv' := [(0, .ref 1), (1, .int 0)]) rfl ?_
  refine Zf_X6_clearSheet_7 hC L _ (fun I_2 => ?_) e_FU 0 I_1
  · refine zo_aload_n hC dX6_clearSheet_25 rfl 0 rfl ?_
    refine zo_getR hC (r := 4) fk6_18 (by decide) gr_1_2 at_1 dX6_clearSheet_26 ?_
    refine zo_iconst (v := 0) hC (by decide) dX6_clearSheet_29 ?_
    refine zo_iconst (v := 1) hC (by decide) dX6_clearSheet_30 ?_
    refine zo_iast hC ar_4 (e_ix_vp (by decide)) dX6_clearSheet_31 ?_
    refine zo_topI (fun I_3 => ?_)
    refine zo_aload_n hC dX6_clearSheet_32 rfl 0 rfl ?_
    refine zo_getR hC (r := 4) fk6_18 (by decide) gr_1_2 at_1 dX6_clearSheet_33 ?_
    refine zo_iconst (v := 1) hC (by decide) dX6_clearSheet_36 ?_
    refine zo_iconst (v := 2) hC (by decide) dX6_clearSheet_37 ?_
    refine zo_iast hC ar_4 (e_ix_vp (by decide)) dX6_clearSheet_38 ?_
    refine zo_topI (fun I_4 => ?_)
    refine zo_aload_n hC dX6_clearSheet_39 rfl 0 rfl ?_
    refine zo_getR hC (r := 4) fk6_18 (by decide) gr_1_2 at_1 dX6_clearSheet_40 ?_
    refine zo_iconst (v := 2) hC (by decide) dX6_clearSheet_43 ?_
    refine zo_iconst (v := 0) hC (by decide) dX6_clearSheet_44 ?_
    refine zo_iast hC ar_4 (e_ix_vp (by decide)) dX6_clearSheet_45 ?_
    refine zo_topI (fun I_5 => ?_)
    refine zo_aload_n hC dX6_clearSheet_46 rfl 0 rfl ?_
    refine zo_getR hC (r := 4) fk6_18 (by decide) gr_1_2 at_1 dX6_clearSheet_47 ?_
    refine zo_iconst (v := 3) hC (by decide) dX6_clearSheet_50 ?_
    refine zo_bipush (v := 14) hC (by decide) dX6_clearSheet_51 ?_
    refine zo_iast hC ar_4 (e_ix_vp (by decide)) dX6_clearSheet_53 ?_
    refine zo_topI (fun I_6 => ?_)
    refine zo_aload_n hC dX6_clearSheet_54 rfl 0 rfl ?_
    refine zo_getR hC (r := 4) fk6_18 (by decide) gr_1_2 at_1 dX6_clearSheet_55 ?_
    refine zo_iconst (v := 4) hC (by decide) dX6_clearSheet_58 ?_
    refine zo_bipush (v := 30) hC (by decide) dX6_clearSheet_59 ?_
    refine zo_iast hC ar_4 (e_ix_vp (by decide)) dX6_clearSheet_61 ?_
    refine zo_topI (fun I_7 => ?_)
    exact zo_vret hC rfl dX6_clearSheet_62

theorem T_X6_clearSheet (I : e_I) (L : e_L) (p : e_I) (hp : f_X6_clearSheet I = some p) : Mt yX6_clearSheet cX6_clearSheet 2 none 0 gN [.ref 1] I L ((ph_vI L) p) := zo_enter hp (by decide) (Nat.le_of_ble_eq_true rfl) (fun X hC => Zf_X6_clearSheet hC I L)
def f_X6_isDigit_17 (s0 : Int32) : Option (Int32) :=
  e_as (s0 = 0 ∨ s0 = 1) (
  some s0)
set_option maxRecDepth 100000 in
set_option maxHeartbeats 4000000 in
theorem Zf_X6_isDigit_17 {X : e_X} (hC : e_C X cX6_isDigit RX6 1 (some .boolean) 0 gN) (I : e_I) (L : e_L) (s0 : Int32) : Zo X (ph_i I L) (f_X6_isDigit_17 s0) 17 [] [.int s0] I L := by
  unfold f_X6_isDigit_17
  refine zo_as (fun h_1 => ?_)
  exact zo_zret hC h_1 rfl dX6_isDigit_17

def f_X6_isDigit_16 : Option (Int32) :=
  f_X6_isDigit_17 0
set_option maxRecDepth 100000 in
set_option maxHeartbeats 4000000 in
theorem Zf_X6_isDigit_16 {X : e_X} (hC : e_C X cX6_isDigit RX6 1 (some .boolean) 0 gN) (I : e_I) (L : e_L) : Zo X (ph_i I L) (f_X6_isDigit_16) 16 [] [] I L := by
  unfold f_X6_isDigit_16
  refine zo_iconst (v := 0) hC (by decide) dX6_isDigit_16 ?_
  exact Zf_X6_isDigit_17 hC I L 0

def f_X6_isDigit (v0 : Int32) : Option (Int32) :=
  if v0 < 48 then (
    f_X6_isDigit_16 )
  else (
    if v0 > 57 then (
      f_X6_isDigit_16 )
    else (
      f_X6_isDigit_17 1))
set_option maxRecDepth 100000 in
set_option maxHeartbeats 4000000 in
theorem Zf_X6_isDigit {X : e_X} (hC : e_C X cX6_isDigit RX6 1 (some .boolean) 0 gN) (v0 : Int32) (I : e_I) (L : e_L) : Zo X (ph_i I L) (f_X6_isDigit v0) 0 [(0, .int v0)] [] I L := by
  unfold f_X6_isDigit
  refine zo_iload_n hC dX6_isDigit_0 rfl 0 rfl ?_
  refine zo_bipush (v := 48) hC (by decide) dX6_isDigit_1 ?_
  refine zo_icmp_lt (tgt := 16) hC dX6_isDigit_3 (by decide) (fun c_1 => ?_) (fun c_1 => ?_)
  · refine zo_sub [] (lv' := []) rfl ?_
    exact Zf_X6_isDigit_16 hC I L 
  · refine zo_iload_n hC dX6_isDigit_6 rfl 0 rfl ?_
    refine zo_bipush (v := 57) hC (by decide) dX6_isDigit_7 ?_
    refine zo_icmp_gt (tgt := 16) hC dX6_isDigit_9 (by decide) (fun c_2 => ?_) (fun c_2 => ?_)
    · refine zo_sub [] (lv' := []) rfl ?_
      exact Zf_X6_isDigit_16 hC I L 
    · refine zo_iconst (v := 1) hC (by decide) dX6_isDigit_12 ?_
      refine zo_goto (tgt := 17) hC dX6_isDigit_13 (by decide) ?_
      refine zo_sub [] (lv' := []) rfl ?_
      exact Zf_X6_isDigit_17 hC I L 1

theorem T_X6_isDigit (v0 : Int32) (I : e_I) (L : e_L) (p : Int32) (hp : f_X6_isDigit v0 = some p) : Mt yX6_isDigit cX6_isDigit 1 (some .boolean) 0 gN [.int v0] I L ((ph_i I L) p) := zo_enter hp (by decide) (Nat.le_of_ble_eq_true rfl) (fun X hC => Zf_X6_isDigit hC v0 I L)
def f_X6_isLetter_17 (s0 : Int32) : Option (Int32) :=
  e_as (s0 = 0 ∨ s0 = 1) (
  some s0)
set_option maxRecDepth 100000 in
set_option maxHeartbeats 4000000 in
theorem Zf_X6_isLetter_17 {X : e_X} (hC : e_C X cX6_isLetter RX6 1 (some .boolean) 0 gN) (I : e_I) (L : e_L) (s0 : Int32) : Zo X (ph_i I L) (f_X6_isLetter_17 s0) 17 [] [.int s0] I L := by
  unfold f_X6_isLetter_17
  refine zo_as (fun h_1 => ?_)
  exact zo_zret hC h_1 rfl dX6_isLetter_17

def f_X6_isLetter_16 : Option (Int32) :=
  f_X6_isLetter_17 0
set_option maxRecDepth 100000 in
set_option maxHeartbeats 4000000 in
theorem Zf_X6_isLetter_16 {X : e_X} (hC : e_C X cX6_isLetter RX6 1 (some .boolean) 0 gN) (I : e_I) (L : e_L) : Zo X (ph_i I L) (f_X6_isLetter_16) 16 [] [] I L := by
  unfold f_X6_isLetter_16
  refine zo_iconst (v := 0) hC (by decide) dX6_isLetter_16 ?_
  exact Zf_X6_isLetter_17 hC I L 0

def f_X6_isLetter (v0 : Int32) : Option (Int32) :=
  if v0 < 97 then (
    f_X6_isLetter_16 )
  else (
    if v0 > 122 then (
      f_X6_isLetter_16 )
    else (
      f_X6_isLetter_17 1))
set_option maxRecDepth 100000 in
set_option maxHeartbeats 4000000 in
theorem Zf_X6_isLetter {X : e_X} (hC : e_C X cX6_isLetter RX6 1 (some .boolean) 0 gN) (v0 : Int32) (I : e_I) (L : e_L) : Zo X (ph_i I L) (f_X6_isLetter v0) 0 [(0, .int v0)] [] I L := by
  unfold f_X6_isLetter
  refine zo_iload_n hC dX6_isLetter_0 rfl 0 rfl ?_
  refine zo_bipush (v := 97) hC (by decide) dX6_isLetter_1 ?_
  refine zo_icmp_lt (tgt := 16) hC dX6_isLetter_3 (by decide) (fun c_1 => ?_) (fun c_1 => ?_)
  · refine zo_sub [] (lv' := []) rfl ?_
    exact Zf_X6_isLetter_16 hC I L 
  · refine zo_iload_n hC dX6_isLetter_6 rfl 0 rfl ?_
    refine zo_bipush (v := 122) hC (by decide) dX6_isLetter_7 ?_
    refine zo_icmp_gt (tgt := 16) hC dX6_isLetter_9 (by decide) (fun c_2 => ?_) (fun c_2 => ?_)
    · refine zo_sub [] (lv' := []) rfl ?_
      exact Zf_X6_isLetter_16 hC I L 
    · refine zo_iconst (v := 1) hC (by decide) dX6_isLetter_12 ?_
      refine zo_goto (tgt := 17) hC dX6_isLetter_13 (by decide) ?_
      refine zo_sub [] (lv' := []) rfl ?_
      exact Zf_X6_isLetter_17 hC I L 1

theorem T_X6_isLetter (v0 : Int32) (I : e_I) (L : e_L) (p : Int32) (hp : f_X6_isLetter v0 = some p) : Mt yX6_isLetter cX6_isLetter 1 (some .boolean) 0 gN [.int v0] I L ((ph_i I L) p) := zo_enter hp (by decide) (Nat.le_of_ble_eq_true rfl) (fun X hC => Zf_X6_isLetter hC v0 I L)
def f_X6_stepOverDigits_0 (k63 : e_I → Option (e_I)) : Nat → e_I → Option (e_I)
  | 0, _ => none
  | n + 1, I =>
    if (I 1 10) ≥ (I 1 9) then (
      k63 I)
    else (
      e_as (e_ix (I 1 10) 500 = true) (
      e_b1 (f_X6_isDigit (I 5 (I 1 10).toNatClampNeg)) (fun (r_3 : Int32) =>
      if r_3 = 0 then (
        k63 I)
      else (
        e_as (e_ix (I 1 10) 500 = true) (
        e_let (e_ui I 1 12 (((I 1 12) * 10) + ((I 5 (I 1 10).toNatClampNeg) - 48))) (fun (I_6 : e_I) =>
        e_let (e_ui I_6 1 10 ((I_6 1 10) + 1)) (fun (I_7 : e_I) =>
        f_X6_stepOverDigits_0 k63 n I_7)))))))
set_option maxRecDepth 100000 in
set_option maxHeartbeats 4000000 in
theorem Zf_X6_stepOverDigits_0 {X : e_X} (hC : e_C X cX6_stepOverDigits RX6 1 none 1 gN) (L : e_L) (k63 : e_I → Option (e_I)) (hk63 : ∀ (I : e_I), Zo X (ph_vI L) (k63 I) 63 [(0, .ref 1)] [] I L) : ∀ (n : Nat) (I : e_I), Zo X (ph_vI L) (f_X6_stepOverDigits_0 k63 n I) 0 [(0, .ref 1)] [] I L := by
  intro n
  induction n with
  | zero => intro I p hp; cases hp
  | succ n ih =>
    intro I
    unfold f_X6_stepOverDigits_0
    refine zo_aload_n hC dX6_stepOverDigits_0 rfl 0 rfl ?_
    refine zo_getI hC fk6_97 at_1 dX6_stepOverDigits_1 ?_
    refine zo_aload_n hC dX6_stepOverDigits_4 rfl 0 rfl ?_
    refine zo_getI hC fk6_94 at_1 dX6_stepOverDigits_5 ?_
    refine zo_icmp_ge (tgt := 63) hC dX6_stepOverDigits_8 (by decide) (fun c_1 => ?_) (fun c_1 => ?_)
    · exact hk63 I
    · refine zo_aload_n hC dX6_stepOverDigits_11 rfl 0 rfl ?_
      refine zo_getR hC (r := 5) fk6_21 (by decide) gr_1_6 at_1 dX6_stepOverDigits_12 ?_
      refine zo_aload_n hC dX6_stepOverDigits_15 rfl 0 rfl ?_
      refine zo_getI hC fk6_97 at_1 dX6_stepOverDigits_16 ?_
      refine zo_as (fun h_2 => ?_)
      refine zo_bald hC ar_5 (e_ix_vp h_2) dX6_stepOverDigits_19 ?_
      refine zo_callS_i hC [.int (I 5 (I 1 10).toNatClampNeg)] [] me_X6_isDigit mlX6_129 sm_X6_isDigit (fun p hp => T_X6_isDigit (I 5 (I 1 10).toNatClampNeg) I L p hp) (by decide) rfl (Nat.le_of_ble_eq_true rfl) dX6_stepOverDigits_20 rfl (fun r_3 => ?_)
      refine zo_if_eq (tgt := 63) hC dX6_stepOverDigits_23 (by decide) (fun c_4 => ?_) (fun c_4 => ?_)
      · exact hk63 I
      · refine zo_aload_n hC dX6_stepOverDigits_26 rfl 0 rfl ?_
        refine zo_aload_n hC dX6_stepOverDigits_27 rfl 0 rfl ?_
        refine zo_getI hC fk6_82 at_1 dX6_stepOverDigits_28 ?_
        refine zo_bipush (v := 10) hC (by decide) dX6_stepOverDigits_31 ?_
        refine zo_imul hC dX6_stepOverDigits_33 ?_
        refine zo_aload_n hC dX6_stepOverDigits_34 rfl 0 rfl ?_
        refine zo_getR hC (r := 5) fk6_21 (by decide) gr_1_6 at_1 dX6_stepOverDigits_35 ?_
        refine zo_aload_n hC dX6_stepOverDigits_38 rfl 0 rfl ?_
        refine zo_getI hC fk6_97 at_1 dX6_stepOverDigits_39 ?_
        refine zo_as (fun h_5 => ?_)
        refine zo_bald hC ar_5 (e_ix_vp h_5) dX6_stepOverDigits_42 ?_
        refine zo_bipush (v := 48) hC (by decide) dX6_stepOverDigits_43 ?_
        refine zo_isub hC dX6_stepOverDigits_45 ?_
        refine zo_iadd hC dX6_stepOverDigits_46 ?_
        refine zo_putI hC fk6_82 ff6_12 at_1 dX6_stepOverDigits_47 ?_
        refine zo_topI (fun I_6 => ?_)
        refine zo_aload_n hC dX6_stepOverDigits_50 rfl 0 rfl ?_
        refine zo_dup hC rfl dX6_stepOverDigits_51 ?_
        refine zo_getI hC fk6_97 at_1 dX6_stepOverDigits_52 ?_
        refine zo_iconst (v := 1) hC (by decide) dX6_stepOverDigits_55 ?_
        refine zo_iadd hC dX6_stepOverDigits_56 ?_
        refine zo_putI hC fk6_97 ff6_10 at_1 dX6_stepOverDigits_57 ?_
        refine zo_topI (fun I_7 => ?_)
        refine zo_goto (tgt := 0) hC dX6_stepOverDigits_60 (by decide) ?_
        exact ih I_7

def f_X6_stepOverDigits_82 (s0 : Int32) (I : e_I) : Option (e_I) :=
  e_let (e_ui I 1 11 s0) (fun (I_1 : e_I) =>
  some I_1)
set_option maxRecDepth 100000 in
set_option maxHeartbeats 4000000 in
theorem Zf_X6_stepOverDigits_82 {X : e_X} (hC : e_C X cX6_stepOverDigits RX6 1 none 1 gN) (L : e_L) (s0 : Int32) (I : e_I) : Zo X (ph_vI L) (f_X6_stepOverDigits_82 s0 I) 82 [] [.int s0, .ref 1] I L := by
  unfold f_X6_stepOverDigits_82
  refine zo_putI hC fk6_79 ff6_11 at_1 dX6_stepOverDigits_82 ?_
  refine zo_topI (fun I_1 => ?_)
  exact zo_vret hC rfl dX6_stepOverDigits_85

def f_X6_stepOverDigits (I : e_I) : Option (e_I) :=
  f_X6_stepOverDigits_0 (fun (I_1 : e_I) =>
    if ((I_1 1 10) - (I_1 1 5)) > 2 then (
      f_X6_stepOverDigits_82 4 I_1)
    else (
      f_X6_stepOverDigits_82 1 I_1)) e_FU I
set_option maxRecDepth 100000 in
set_option maxHeartbeats 4000000 in
theorem Zf_X6_stepOverDigits {X : e_X} (hC : e_C X cX6_stepOverDigits RX6 1 none 1 gN) (I : e_I) (L : e_L) : Zo X (ph_vI L) (f_X6_stepOverDigits I) 0 [(0, .ref 1)] [] I L := by
  unfold f_X6_stepOverDigits
  refine Zf_X6_stepOverDigits_0 hC L _ (fun I_1 => ?_) e_FU I
  · refine zo_aload_n hC dX6_stepOverDigits_63 rfl 0 rfl ?_
    refine zo_aload_n hC dX6_stepOverDigits_64 rfl 0 rfl ?_
    refine zo_getI hC fk6_97 at_1 dX6_stepOverDigits_65 ?_
    refine zo_aload_n hC dX6_stepOverDigits_68 rfl 0 rfl ?_
    refine zo_getI hC fk6_120 at_1 dX6_stepOverDigits_69 ?_
    refine zo_isub hC dX6_stepOverDigits_72 ?_
    refine zo_iconst (v := 2) hC (by decide) dX6_stepOverDigits_73 ?_
    refine zo_icmp_gt (tgt := 81) hC dX6_stepOverDigits_74 (by decide) (fun c_2 => ?_) (fun c_2 => ?_)
    · refine zo_iconst (v := 4) hC (by decide) dX6_stepOverDigits_81 ?_
      refine zo_sub [] (lv' := []) rfl ?_
      exact Zf_X6_stepOverDigits_82 hC L 4 I_1
    · refine zo_iconst (v := 1) hC (by decide) dX6_stepOverDigits_77 ?_
      refine zo_goto (tgt := 82) hC dX6_stepOverDigits_78 (by decide) ?_
      refine zo_sub [] (lv' := []) rfl ?_
      exact Zf_X6_stepOverDigits_82 hC L 1 I_1

theorem T_X6_stepOverDigits (I : e_I) (L : e_L) (p : e_I) (hp : f_X6_stepOverDigits I = some p) : Mt yX6_stepOverDigits cX6_stepOverDigits 1 none 1 gN [.ref 1] I L ((ph_vI L) p) := zo_enter hp (by decide) (Nat.le_of_ble_eq_true rfl) (fun X hC => Zf_X6_stepOverDigits hC I L)
def f_X6_withLetter (v0 : Int32) (v1 : Int32) : Option (Int32) :=
  some ((v0 * 27) + ((v1 - 97) + 1))
set_option maxRecDepth 100000 in
set_option maxHeartbeats 4000000 in
theorem Zf_X6_withLetter {X : e_X} (hC : e_C X cX6_withLetter RX6 2 (some .int) 0 gN) (v0 : Int32) (v1 : Int32) (I : e_I) (L : e_L) : Zo X (ph_i I L) (f_X6_withLetter v0 v1) 0 [(0, .int v0), (1, .int v1)] [] I L := by
  unfold f_X6_withLetter
  refine zo_iload_n hC dX6_withLetter_0 rfl 0 rfl ?_
  refine zo_bipush (v := 27) hC (by decide) dX6_withLetter_1 ?_
  refine zo_imul hC dX6_withLetter_3 ?_
  refine zo_iload_n hC dX6_withLetter_4 rfl 1 rfl ?_
  refine zo_bipush (v := 97) hC (by decide) dX6_withLetter_5 ?_
  refine zo_isub hC dX6_withLetter_7 ?_
  refine zo_iconst (v := 1) hC (by decide) dX6_withLetter_8 ?_
  refine zo_iadd hC dX6_withLetter_9 ?_
  refine zo_iadd hC dX6_withLetter_10 ?_
  exact zo_iret hC rfl dX6_withLetter_11

theorem T_X6_withLetter (v0 : Int32) (v1 : Int32) (I : e_I) (L : e_L) (p : Int32) (hp : f_X6_withLetter v0 v1 = some p) : Mt yX6_withLetter cX6_withLetter 2 (some .int) 0 gN [.int v0, .int v1] I L ((ph_i I L) p) := zo_enter hp (by decide) (Nat.le_of_ble_eq_true rfl) (fun X hC => Zf_X6_withLetter hC v0 v1 I L)
def f_X6_stepOverLetters_0 (k59 : e_I → Option (e_I)) : Nat → e_I → Option (e_I)
  | 0, _ => none
  | n + 1, I =>
    if (I 1 10) ≥ (I 1 9) then (
      k59 I)
    else (
      e_as (e_ix (I 1 10) 500 = true) (
      e_b1 (f_X6_isLetter (I 5 (I 1 10).toNatClampNeg)) (fun (r_3 : Int32) =>
      if r_3 = 0 then (
        k59 I)
      else (
        e_as (e_ix (I 1 10) 500 = true) (
        e_b1 (f_X6_withLetter (I 1 12) (I 5 (I 1 10).toNatClampNeg)) (fun (r_6 : Int32) =>
        e_let (e_ui I 1 12 r_6) (fun (I_7 : e_I) =>
        e_let (e_ui I_7 1 10 ((I_7 1 10) + 1)) (fun (I_8 : e_I) =>
        f_X6_stepOverLetters_0 k59 n I_8))))))))
set_option maxRecDepth 100000 in
set_option maxHeartbeats 4000000 in
theorem Zf_X6_stepOverLetters_0 {X : e_X} (hC : e_C X cX6_stepOverLetters RX6 1 none 1 gN) (L : e_L) (k59 : e_I → Option (e_I)) (hk59 : ∀ (I : e_I), Zo X (ph_vI L) (k59 I) 59 [(0, .ref 1)] [] I L) : ∀ (n : Nat) (I : e_I), Zo X (ph_vI L) (f_X6_stepOverLetters_0 k59 n I) 0 [(0, .ref 1)] [] I L := by
  intro n
  induction n with
  | zero => intro I p hp; cases hp
  | succ n ih =>
    intro I
    unfold f_X6_stepOverLetters_0
    refine zo_aload_n hC dX6_stepOverLetters_0 rfl 0 rfl ?_
    refine zo_getI hC fk6_97 at_1 dX6_stepOverLetters_1 ?_
    refine zo_aload_n hC dX6_stepOverLetters_4 rfl 0 rfl ?_
    refine zo_getI hC fk6_94 at_1 dX6_stepOverLetters_5 ?_
    refine zo_icmp_ge (tgt := 59) hC dX6_stepOverLetters_8 (by decide) (fun c_1 => ?_) (fun c_1 => ?_)
    · exact hk59 I
    · refine zo_aload_n hC dX6_stepOverLetters_11 rfl 0 rfl ?_
      refine zo_getR hC (r := 5) fk6_21 (by decide) gr_1_6 at_1 dX6_stepOverLetters_12 ?_
      refine zo_aload_n hC dX6_stepOverLetters_15 rfl 0 rfl ?_
      refine zo_getI hC fk6_97 at_1 dX6_stepOverLetters_16 ?_
      refine zo_as (fun h_2 => ?_)
      refine zo_bald hC ar_5 (e_ix_vp h_2) dX6_stepOverLetters_19 ?_
      refine zo_callS_i hC [.int (I 5 (I 1 10).toNatClampNeg)] [] me_X6_isLetter mlX6_123 sm_X6_isLetter (fun p hp => T_X6_isLetter (I 5 (I 1 10).toNatClampNeg) I L p hp) (by decide) rfl (Nat.le_of_ble_eq_true rfl) dX6_stepOverLetters_20 rfl (fun r_3 => ?_)
      refine zo_if_eq (tgt := 59) hC dX6_stepOverLetters_23 (by decide) (fun c_4 => ?_) (fun c_4 => ?_)
      · exact hk59 I
      · refine zo_aload_n hC dX6_stepOverLetters_26 rfl 0 rfl ?_
        refine zo_aload_n hC dX6_stepOverLetters_27 rfl 0 rfl ?_
        refine zo_getI hC fk6_82 at_1 dX6_stepOverLetters_28 ?_
        refine zo_aload_n hC dX6_stepOverLetters_31 rfl 0 rfl ?_
        refine zo_getR hC (r := 5) fk6_21 (by decide) gr_1_6 at_1 dX6_stepOverLetters_32 ?_
        refine zo_aload_n hC dX6_stepOverLetters_35 rfl 0 rfl ?_
        refine zo_getI hC fk6_97 at_1 dX6_stepOverLetters_36 ?_
        refine zo_as (fun h_5 => ?_)
        refine zo_bald hC ar_5 (e_ix_vp h_5) dX6_stepOverLetters_39 ?_
        refine zo_callS_i hC [.int (I 1 12), .int (I 5 (I 1 10).toNatClampNeg)] [.ref 1] me_X6_withLetter mlX6_135 sm_X6_withLetter (fun p hp => T_X6_withLetter (I 1 12) (I 5 (I 1 10).toNatClampNeg) I L p hp) (by decide) rfl (Nat.le_of_ble_eq_true rfl) dX6_stepOverLetters_40 rfl (fun r_6 => ?_)
        refine zo_putI hC fk6_82 ff6_12 at_1 dX6_stepOverLetters_43 ?_
        refine zo_topI (fun I_7 => ?_)
        refine zo_aload_n hC dX6_stepOverLetters_46 rfl 0 rfl ?_
        refine zo_dup hC rfl dX6_stepOverLetters_47 ?_
        refine zo_getI hC fk6_97 at_1 dX6_stepOverLetters_48 ?_
        refine zo_iconst (v := 1) hC (by decide) dX6_stepOverLetters_51 ?_
        refine zo_iadd hC dX6_stepOverLetters_52 ?_
        refine zo_putI hC fk6_97 ff6_10 at_1 dX6_stepOverLetters_53 ?_
        refine zo_topI (fun I_8 => ?_)
        refine zo_goto (tgt := 0) hC dX6_stepOverLetters_56 (by decide) ?_
        exact ih I_8

def f_X6_stepOverLetters_79 (s0 : Int32) (I : e_I) : Option (e_I) :=
  e_let (e_ui I 1 11 s0) (fun (I_1 : e_I) =>
  some I_1)
set_option maxRecDepth 100000 in
set_option maxHeartbeats 4000000 in
theorem Zf_X6_stepOverLetters_79 {X : e_X} (hC : e_C X cX6_stepOverLetters RX6 1 none 1 gN) (L : e_L) (s0 : Int32) (I : e_I) : Zo X (ph_vI L) (f_X6_stepOverLetters_79 s0 I) 79 [] [.int s0, .ref 1] I L := by
  unfold f_X6_stepOverLetters_79
  refine zo_putI hC fk6_79 ff6_11 at_1 dX6_stepOverLetters_79 ?_
  refine zo_topI (fun I_1 => ?_)
  exact zo_vret hC rfl dX6_stepOverLetters_82

def f_X6_stepOverLetters (I : e_I) : Option (e_I) :=
  f_X6_stepOverLetters_0 (fun (I_1 : e_I) =>
    if ((I_1 1 10) - (I_1 1 5)) > 6 then (
      f_X6_stepOverLetters_79 4 I_1)
    else (
      f_X6_stepOverLetters_79 0 I_1)) e_FU I
set_option maxRecDepth 100000 in
set_option maxHeartbeats 4000000 in
theorem Zf_X6_stepOverLetters {X : e_X} (hC : e_C X cX6_stepOverLetters RX6 1 none 1 gN) (I : e_I) (L : e_L) : Zo X (ph_vI L) (f_X6_stepOverLetters I) 0 [(0, .ref 1)] [] I L := by
  unfold f_X6_stepOverLetters
  refine Zf_X6_stepOverLetters_0 hC L _ (fun I_1 => ?_) e_FU I
  · refine zo_aload_n hC dX6_stepOverLetters_59 rfl 0 rfl ?_
    refine zo_aload_n hC dX6_stepOverLetters_60 rfl 0 rfl ?_
    refine zo_getI hC fk6_97 at_1 dX6_stepOverLetters_61 ?_
    refine zo_aload_n hC dX6_stepOverLetters_64 rfl 0 rfl ?_
    refine zo_getI hC fk6_120 at_1 dX6_stepOverLetters_65 ?_
    refine zo_isub hC dX6_stepOverLetters_68 ?_
    refine zo_bipush (v := 6) hC (by decide) dX6_stepOverLetters_69 ?_
    refine zo_icmp_gt (tgt := 78) hC dX6_stepOverLetters_71 (by decide) (fun c_2 => ?_) (fun c_2 => ?_)
    · refine zo_iconst (v := 4) hC (by decide) dX6_stepOverLetters_78 ?_
      refine zo_sub [] (lv' := []) rfl ?_
      exact Zf_X6_stepOverLetters_79 hC L 4 I_1
    · refine zo_iconst (v := 0) hC (by decide) dX6_stepOverLetters_74 ?_
      refine zo_goto (tgt := 79) hC dX6_stepOverLetters_75 (by decide) ?_
      refine zo_sub [] (lv' := []) rfl ?_
      exact Zf_X6_stepOverLetters_79 hC L 0 I_1

theorem T_X6_stepOverLetters (I : e_I) (L : e_L) (p : e_I) (hp : f_X6_stepOverLetters I = some p) : Mt yX6_stepOverLetters cX6_stepOverLetters 1 none 1 gN [.ref 1] I L ((ph_vI L) p) := zo_enter hp (by decide) (Nat.le_of_ble_eq_true rfl) (fun X hC => Zf_X6_stepOverLetters hC I L)
