def f_X8_scale_33 (I : e_I) (s0 : Int64) : Option (Int64) :=
  some s0
set_option maxRecDepth 100000 in
set_option maxHeartbeats 4000000 in
theorem Zf_X8_scale_33 {X : e_X} (hC : e_C X cX8_scale RX8 2 (some .long) 0 gN) (I : e_I) (L : e_L) (s0 : Int64) : Zo X (ph_l I L) (f_X8_scale_33 I s0) 33 [] [.long s0] I L := by
  unfold f_X8_scale_33
  exact zo_lret hC rfl dX8_scale_33

def f_X8_scale (v1 : Int32) (I : e_I) : Option (Int64) :=
  if v1 ≠ 2 then (
    if v1 ≠ 3 then (
      f_X8_scale_33 I 20)
    else (
      f_X8_scale_33 I ((20 : Int64) * ((I 85 (0 : Int32).toNatClampNeg).toInt64))))
  else (
    f_X8_scale_33 I 400)
set_option maxRecDepth 100000 in
set_option maxHeartbeats 4000000 in
theorem Zf_X8_scale {X : e_X} (hC : e_C X cX8_scale RX8 2 (some .long) 0 gN) (v1 : Int32) (I : e_I) (L : e_L) : Zo X (ph_l I L) (f_X8_scale v1 I) 0 [(0, .ref 83), (1, .int v1)] [] I L := by
  unfold f_X8_scale
  refine zo_iload_n hC dX8_scale_0 rfl 1 rfl ?_
  refine zo_iconst (v := 2) hC (by decide) dX8_scale_1 ?_
  refine zo_icmp_ne (tgt := 11) hC dX8_scale_2 (by decide) (fun c_1 => ?_) (fun c_1 => ?_)
  · refine zo_iload_n hC dX8_scale_11 rfl 1 rfl ?_
    refine zo_iconst (v := 3) hC (by decide) dX8_scale_12 ?_
    refine zo_icmp_ne (tgt := 30) hC dX8_scale_13 (by decide) (fun c_2 => ?_) (fun c_2 => ?_)
    · refine zo_ldc2 (v := 20) hC clX8_241 dX8_scale_30 ?_
      refine zo_sub [] (lv' := []) rfl ?_
      exact Zf_X8_scale_33 hC I L 20
    · refine zo_ldc2 (v := 20) hC clX8_241 dX8_scale_16 ?_
      refine zo_aload_n hC dX8_scale_19 rfl 0 rfl ?_
      refine zo_getR hC (r := 85) fk8_17 (by decide) gr_83_7 at_83 dX8_scale_20 ?_
      refine zo_iconst (v := 0) hC (by decide) dX8_scale_23 ?_
      refine zo_iald hC ar_85 (e_ix_vp (by decide)) dX8_scale_24 ?_
      refine zo_i2l hC dX8_scale_25 ?_
      refine zo_lmul hC dX8_scale_26 ?_
      refine zo_goto (tgt := 33) hC dX8_scale_27 (by decide) ?_
      refine zo_sub [] (lv' := []) rfl ?_
      exact Zf_X8_scale_33 hC I L ((20 : Int64) * ((I 85 (0 : Int32).toNatClampNeg).toInt64))
  · refine zo_ldc2 (v := 400) hC clX8_266 dX8_scale_5 ?_
    refine zo_goto (tgt := 33) hC dX8_scale_8 (by decide) ?_
    refine zo_sub [] (lv' := []) rfl ?_
    exact Zf_X8_scale_33 hC I L 400

theorem T_X8_scale (v1 : Int32) (I : e_I) (L : e_L) (p : Int64) (hp : f_X8_scale v1 I = some p) : Mt yX8_scale cX8_scale 2 (some .long) 0 gN [.ref 83, .int v1] I L ((ph_l I L) p) := zo_enter hp (by decide) (Nat.le_of_ble_eq_true rfl) (fun X hC => Zf_X8_scale hC v1 I L)
def f_X8_laysOut_8 (a3 : Nat) (v1 : Int32) (v2 : Int32) (v4 : Int32) (v5 : Int32) (v6 : Int32) (k29 : e_I → e_L → Option (e_I × e_L)) : Nat → Int32 → e_I → e_L → Option (e_I × e_L)
  | 0, _, _, _ => none
  | n + 1, v7, I, L =>
    if v7 ≥ 24 then (
      k29 I L)
    else (
      e_as (e_ix v7 24 = true) (
      e_let (e_ul L 89 v7.toNatClampNeg 0) (fun (L_3 : e_L) =>
      e_let (v7 + 1) (fun (x_4 : Int32) =>
      f_X8_laysOut_8 a3 v1 v2 v4 v5 v6 k29 n x_4 I L_3))))
set_option maxRecDepth 100000 in
set_option maxHeartbeats 4000000 in
theorem Zf_X8_laysOut_8 {X : e_X} (hC : e_C X cX8_laysOut RX8 10 none 9 gN) (a3 : Nat) (ha3 : e_ir a3) (v1 : Int32) (v2 : Int32) (v4 : Int32) (v5 : Int32) (v6 : Int32) (k29 : e_I → e_L → Option (e_I × e_L)) (hk29 : ∀ (I : e_I) (L : e_L), Zo X (ph_vIL) (k29 I L) 29 [(0, .ref 83), (1, .int v1), (2, .int v2), (3, .ref a3), (4, .int v4), (5, .int v5), (6, .int v6)] [] I L) : ∀ (n : Nat) (v7 : Int32) (I : e_I) (L : e_L), Zo X (ph_vIL) (f_X8_laysOut_8 a3 v1 v2 v4 v5 v6 k29 n v7 I L) 8 [(0, .ref 83), (1, .int v1), (2, .int v2), (3, .ref a3), (4, .int v4), (5, .int v5), (6, .int v6), (7, .int v7)] [] I L := by
  intro n
  induction n with
  | zero => intro v7 I L p hp; cases hp
  | succ n ih =>
    intro v7 I L
    unfold f_X8_laysOut_8
    refine zo_iload hC dX8_laysOut_8 7 rfl ?_
    refine zo_bipush (v := 24) hC (by decide) dX8_laysOut_10 ?_
    refine zo_icmp_ge (tgt := 29) hC dX8_laysOut_12 (by decide) (fun c_1 => ?_) (fun c_1 => ?_)
    · refine zo_sub [0, 1, 2, 3, 4, 5, 6] (lv' := [(0, .ref 83), (1, .int v1), (2, .int v2), (3, .ref a3), (4, .int v4), (5, .int v5), (6, .int v6)]) rfl ?_
      exact hk29 I L
    · refine zo_aload_n hC dX8_laysOut_15 rfl 0 rfl ?_
      refine zo_getR hC (r := 89) fk8_29 (by decide) gr_83_22 at_83 dX8_laysOut_16 ?_
      refine zo_iload hC dX8_laysOut_19 7 rfl ?_
      refine zo_lconst (v := 0) hC (by decide) dX8_laysOut_21 ?_
      refine zo_as (fun h_2 => ?_)
      refine zo_last hC ar_89 (e_ix_vp h_2) dX8_laysOut_22 ?_
      refine zo_topL (fun L_3 => ?_)
      refine zo_iinc hC (x := v7) (fun x_4 => [(7, .int x_4), (0, .ref 83), (1, .int v1), (2, .int v2), (3, .ref a3), (4, .int v4), (5, .int v5), (6, .int v6)]) dX8_laysOut_23 7 rfl (by rfl) (by decide) (fun _ => rfl) (fun x_4 => ?_)
      refine zo_goto (tgt := 8) hC dX8_laysOut_26 (by decide) ?_
      refine zo_sub [1, 2, 3, 4, 5, 6, 7, 0] (lv' := [(0, .ref 83), (1, .int v1), (2, .int v2), (3, .ref a3), (4, .int v4), (5, .int v5), (6, .int v6), (7, .int x_4)]) rfl ?_
      exact ih x_4 I L_3

def f_X8_laysOut_41 (a3 : Nat) (v1 : Int32) (v2 : Int32) (v4 : Int32) (v5 : Int32) (v6 : Int32) (v7 : Int32) (k68 : e_I → e_L → Option (e_I × e_L)) : Nat → Int32 → e_I → e_L → Option (e_I × e_L)
  | 0, _, _, _ => none
  | n + 1, v8, I, L =>
    if v8 ≥ 24 then (
      k68 I L)
    else (
      e_as (e_ix v8 24 = true) (
      e_as (e_ix v8 24 = true) (
      e_let (e_ul L 90 v8.toNatClampNeg (L 89 v8.toNatClampNeg)) (fun (L_4 : e_L) =>
      e_let (v8 + 1) (fun (x_5 : Int32) =>
      f_X8_laysOut_41 a3 v1 v2 v4 v5 v6 v7 k68 n x_5 I L_4)))))
set_option maxRecDepth 100000 in
set_option maxHeartbeats 4000000 in
theorem Zf_X8_laysOut_41 {X : e_X} (hC : e_C X cX8_laysOut RX8 10 none 9 gN) (a3 : Nat) (ha3 : e_ir a3) (v1 : Int32) (v2 : Int32) (v4 : Int32) (v5 : Int32) (v6 : Int32) (v7 : Int32) (k68 : e_I → e_L → Option (e_I × e_L)) (hk68 : ∀ (I : e_I) (L : e_L), Zo X (ph_vIL) (k68 I L) 68 [(0, .ref 83), (1, .int v1), (2, .int v2), (3, .ref a3), (4, .int v4), (5, .int v5), (6, .int v6), (7, .int v7)] [] I L) : ∀ (n : Nat) (v8 : Int32) (I : e_I) (L : e_L), Zo X (ph_vIL) (f_X8_laysOut_41 a3 v1 v2 v4 v5 v6 v7 k68 n v8 I L) 41 [(0, .ref 83), (1, .int v1), (2, .int v2), (3, .ref a3), (4, .int v4), (5, .int v5), (6, .int v6), (7, .int v7), (8, .int v8)] [] I L := by
  intro n
  induction n with
  | zero => intro v8 I L p hp; cases hp
  | succ n ih =>
    intro v8 I L
    unfold f_X8_laysOut_41
    refine zo_iload hC dX8_laysOut_41 8 rfl ?_
    refine zo_bipush (v := 24) hC (by decide) dX8_laysOut_43 ?_
    refine zo_icmp_ge (tgt := 68) hC dX8_laysOut_45 (by decide) (fun c_1 => ?_) (fun c_1 => ?_)
    · refine zo_sub [0, 1, 2, 3, 4, 5, 6, 7] (lv' := [(0, .ref 83), (1, .int v1), (2, .int v2), (3, .ref a3), (4, .int v4), (5, .int v5), (6, .int v6), (7, .int v7)]) rfl ?_
      exact hk68 I L
    · refine zo_aload_n hC dX8_laysOut_48 rfl 0 rfl ?_
      refine zo_getR hC (r := 90) fk8_33 (by decide) gr_83_23 at_83 dX8_laysOut_49 ?_
      refine zo_iload hC dX8_laysOut_52 8 rfl ?_
      refine zo_aload_n hC dX8_laysOut_54 rfl 0 rfl ?_
      refine zo_getR hC (r := 89) fk8_29 (by decide) gr_83_22 at_83 dX8_laysOut_55 ?_
      refine zo_iload hC dX8_laysOut_58 8 rfl ?_
      refine zo_as (fun h_2 => ?_)
      refine zo_lald hC ar_89 (e_ix_vp h_2) dX8_laysOut_60 ?_
      refine zo_as (fun h_3 => ?_)
      refine zo_last hC ar_90 (e_ix_vp h_3) dX8_laysOut_61 ?_
      refine zo_topL (fun L_4 => ?_)
      refine zo_iinc hC (x := v8) (fun x_5 => [(8, .int x_5), (0, .ref 83), (1, .int v1), (2, .int v2), (3, .ref a3), (4, .int v4), (5, .int v5), (6, .int v6), (7, .int v7)]) dX8_laysOut_62 8 rfl (by rfl) (by decide) (fun _ => rfl) (fun x_5 => ?_)
      refine zo_goto (tgt := 41) hC dX8_laysOut_65 (by decide) ?_
      refine zo_sub [1, 2, 3, 4, 5, 6, 7, 8, 0] (lv' := [(0, .ref 83), (1, .int v1), (2, .int v2), (3, .ref a3), (4, .int v4), (5, .int v5), (6, .int v6), (7, .int v7), (8, .int x_5)]) rfl ?_
      exact ih x_5 I L_4

def f_X8_laysOut_104 (a3 : Nat) (v1 : Int32) (v2 : Int32) (v4 : Int32) (v5 : Int32) (v6 : Int32) (v7 : Int32) (k124 : e_I → e_L → Option (e_I × e_L)) : Nat → Int32 → e_I → e_L → Option (e_I × e_L)
  | 0, _, _, _ => none
  | n + 1, v9, I, L =>
    if v9 ≥ 24 then (
      k124 I L)
    else (
      e_b2 (f_X8_laysState v9 v1 I L) (fun (I_2 : e_I) (L_3 : e_L) =>
      e_let (v9 + 1) (fun (x_4 : Int32) =>
      f_X8_laysOut_104 a3 v1 v2 v4 v5 v6 v7 k124 n x_4 I_2 L_3)))
set_option maxRecDepth 100000 in
set_option maxHeartbeats 4000000 in
theorem Zf_X8_laysOut_104 {X : e_X} (hC : e_C X cX8_laysOut RX8 10 none 9 gN) (a3 : Nat) (ha3 : e_ir a3) (v1 : Int32) (v2 : Int32) (v4 : Int32) (v5 : Int32) (v6 : Int32) (v7 : Int32) (k124 : e_I → e_L → Option (e_I × e_L)) (hk124 : ∀ (I : e_I) (L : e_L), Zo X (ph_vIL) (k124 I L) 124 [(0, .ref 83), (1, .int v1), (2, .int v2), (3, .ref a3), (4, .int v4), (5, .int v5), (6, .int v6), (7, .int v7)] [] I L) : ∀ (n : Nat) (v9 : Int32) (I : e_I) (L : e_L), Zo X (ph_vIL) (f_X8_laysOut_104 a3 v1 v2 v4 v5 v6 v7 k124 n v9 I L) 104 [(0, .ref 83), (1, .int v1), (2, .int v2), (3, .ref a3), (4, .int v4), (5, .int v5), (6, .int v6), (7, .int v7), (9, .int v9)] [] I L := by
  intro n
  induction n with
  | zero => intro v9 I L p hp; cases hp
  | succ n ih =>
    intro v9 I L
    unfold f_X8_laysOut_104
    refine zo_iload hC dX8_laysOut_104 8 rfl ?_
    refine zo_bipush (v := 24) hC (by decide) dX8_laysOut_106 ?_
    refine zo_icmp_ge (tgt := 124) hC dX8_laysOut_108 (by decide) (fun c_1 => ?_) (fun c_1 => ?_)
    · refine zo_sub [0, 1, 2, 3, 4, 5, 6, 7] (lv' := [(0, .ref 83), (1, .int v1), (2, .int v2), (3, .ref a3), (4, .int v4), (5, .int v5), (6, .int v6), (7, .int v7)]) rfl ?_
      exact hk124 I L
    · refine zo_aload_n hC dX8_laysOut_111 rfl 0 rfl ?_
      refine zo_iload hC dX8_laysOut_112 8 rfl ?_
      refine zo_iload_n hC dX8_laysOut_114 rfl 1 rfl ?_
      refine zo_callV_vIL hC (ci := 8) [.int v9, .int v1] [] me_X8_laysState mlX8_271 im_X8_laysState se_X8_laysState rfl (by decide) at_83 (fun p hp => T_X8_laysState v9 v1 I L p hp) (by decide) rfl (Nat.le_of_ble_eq_true rfl) dX8_laysOut_115 rfl (fun I_2 L_3 => ?_)
      refine zo_iinc hC (x := v9) (fun x_4 => [(9, .int x_4), (0, .ref 83), (1, .int v1), (2, .int v2), (3, .ref a3), (4, .int v4), (5, .int v5), (6, .int v6), (7, .int v7)]) dX8_laysOut_118 8 rfl (by rfl) (by decide) (fun _ => rfl) (fun x_4 => ?_)
      refine zo_goto (tgt := 104) hC dX8_laysOut_121 (by decide) ?_
      refine zo_sub [1, 2, 3, 4, 5, 6, 7, 8, 0] (lv' := [(0, .ref 83), (1, .int v1), (2, .int v2), (3, .ref a3), (4, .int v4), (5, .int v5), (6, .int v6), (7, .int v7), (9, .int x_4)]) rfl ?_
      exact ih x_4 I_2 L_3

def f_X8_laysOut_32 (a3 : Nat) (v1 : Int32) (v2 : Int32) (v4 : Int32) (v5 : Int32) (v6 : Int32) (k144 : e_I → e_L → Option (e_I × e_L)) : Nat → Int32 → e_I → e_L → Option (e_I × e_L)
  | 0, _, _, _ => none
  | n + 1, v7, I, L =>
    if v7 > v2 then (
      k144 I L)
    else (
      f_X8_laysOut_41 a3 v1 v2 v4 v5 v6 v7 (fun (I_2 : e_I) (L_3 : e_L) =>
        e_let (v2 - v7) (fun (x_4 : Int32) =>
        e_as (¬ (I_2 85 (0 : Int32).toNatClampNeg) = 0) (
        e_as (e_ix (v4 + (e_rm (v5 + x_4) (I_2 85 (0 : Int32).toNatClampNeg))) (e_ln a3) = true) (
        e_b1 (f_X8_laysShares v1 (I_2 a3 (v4 + (e_rm (v5 + x_4) (I_2 85 (0 : Int32).toNatClampNeg))).toNatClampNeg) (v6 + x_4) I_2) (fun (I_7 : e_I) =>
        f_X8_laysOut_104 a3 v1 v2 v4 v5 v6 v7 (fun (I_8 : e_I) (L_9 : e_L) =>
          e_b1 (f_X8_scale v1 I_8) (fun (r_10 : Int64) =>
          e_let (e_ul L_9 83 26 ((L_9 83 26) * r_10)) (fun (L_11 : e_L) =>
          e_let (v7 + 1) (fun (x_12 : Int32) =>
          f_X8_laysOut_32 a3 v1 v2 v4 v5 v6 k144 n x_12 I_8 L_11)))) e_FU 0 I_7 L_3))))) e_FU 0 I L)
set_option maxRecDepth 100000 in
set_option maxHeartbeats 4000000 in
theorem Zf_X8_laysOut_32 {X : e_X} (hC : e_C X cX8_laysOut RX8 10 none 9 gN) (a3 : Nat) (ha3 : e_ir a3) (v1 : Int32) (v2 : Int32) (v4 : Int32) (v5 : Int32) (v6 : Int32) (k144 : e_I → e_L → Option (e_I × e_L)) (hk144 : ∀ (I : e_I) (L : e_L), Zo X (ph_vIL) (k144 I L) 144 [] [] I L) : ∀ (n : Nat) (v7 : Int32) (I : e_I) (L : e_L), Zo X (ph_vIL) (f_X8_laysOut_32 a3 v1 v2 v4 v5 v6 k144 n v7 I L) 32 [(0, .ref 83), (1, .int v1), (2, .int v2), (3, .ref a3), (4, .int v4), (5, .int v5), (6, .int v6), (7, .int v7)] [] I L := by
  intro n
  induction n with
  | zero => intro v7 I L p hp; cases hp
  | succ n ih =>
    intro v7 I L
    unfold f_X8_laysOut_32
    refine zo_iload hC dX8_laysOut_32 7 rfl ?_
    refine zo_iload_n hC dX8_laysOut_34 rfl 2 rfl ?_
    refine zo_icmp_gt (tgt := 144) hC dX8_laysOut_35 (by decide) (fun c_1 => ?_) (fun c_1 => ?_)
    · refine zo_sub [] (lv' := []) rfl ?_
      exact hk144 I L
    · refine zo_iconst (v := 0) hC (by decide) dX8_laysOut_38 ?_
      refine zo_istore (lv' := [(8, .int 0), (0, .ref 83), (1, .int v1), (2, .int v2), (3, .ref a3), (4, .int v4), (5, .int v5), (6, .int v6), (7, .int v7)]) hC dX8_laysOut_39 (by decide) rfl ?_
      refine zo_sub [1, 2, 3, 4, 5, 6, 7, 8, 0] (lv' := [(0, .ref 83), (1, .int v1), (2, .int v2), (3, .ref a3), (4, .int v4), (5, .int v5), (6, .int v6), (7, .int v7), (8, .int 0)]) rfl ?_
      refine Zf_X8_laysOut_41 hC a3 ha3 v1 v2 v4 v5 v6 v7 _ (fun I_2 L_3 => ?_) e_FU 0 I L
      · refine zo_iload_n hC dX8_laysOut_68 rfl 2 rfl ?_
        refine zo_iload hC dX8_laysOut_69 7 rfl ?_
        refine zo_isub hC dX8_laysOut_71 ?_
        refine zo_topi (fun x_4 => ?_)
        refine zo_istore (lv' := [(8, .int x_4), (0, .ref 83), (1, .int v1), (2, .int v2), (3, .ref a3), (4, .int v4), (5, .int v5), (6, .int v6), (7, .int v7)]) hC dX8_laysOut_72 (by decide) rfl ?_
        refine zo_aload_n hC dX8_laysOut_74 rfl 1 rfl ?_
        refine zo_iload_n hC dX8_laysOut_75 rfl 2 rfl ?_
        refine zo_aload_n hC dX8_laysOut_76 rfl 4 rfl ?_
        refine zo_iload hC dX8_laysOut_77 5 rfl ?_
        refine zo_iload hC dX8_laysOut_79 6 rfl ?_
        refine zo_iload hC dX8_laysOut_81 0 rfl ?_
        refine zo_iadd hC dX8_laysOut_83 ?_
        refine zo_aload_n hC dX8_laysOut_84 rfl 1 rfl ?_
        refine zo_getR hC (r := 85) fk8_17 (by decide) gr_83_7 at_83 dX8_laysOut_85 ?_
        refine zo_iconst (v := 0) hC (by decide) dX8_laysOut_88 ?_
        refine zo_iald hC ar_85 (e_ix_vp (by decide)) dX8_laysOut_89 ?_
        refine zo_as (fun h_5 => ?_)
        refine zo_irem_ hC h_5 dX8_laysOut_90 ?_
        refine zo_iadd hC dX8_laysOut_91 ?_
        refine zo_as (fun h_6 => ?_)
        refine zo_iald hC (e_ir_ar ha3) (e_ix_vp h_6) dX8_laysOut_92 ?_
        refine zo_iload hC dX8_laysOut_93 7 rfl ?_
        refine zo_iload hC dX8_laysOut_95 0 rfl ?_
        refine zo_iadd hC dX8_laysOut_97 ?_
        refine zo_callV_vI hC (ci := 8) [.int v1, .int (I_2 a3 (v4 + (e_rm (v5 + x_4) (I_2 85 (0 : Int32).toNatClampNeg))).toNatClampNeg), .int (v6 + x_4)] [] me_X8_laysShares mlX8_268 im_X8_laysShares se_X8_laysShares rfl (by decide) at_83 (fun p hp => T_X8_laysShares v1 (I_2 a3 (v4 + (e_rm (v5 + x_4) (I_2 85 (0 : Int32).toNatClampNeg))).toNatClampNeg) (v6 + x_4) I_2 L_3 p hp) (by decide) rfl (Nat.le_of_ble_eq_true rfl) dX8_laysOut_98 rfl (fun I_7 => ?_)
        refine zo_iconst (v := 0) hC (by decide) dX8_laysOut_101 ?_
        refine zo_istore (lv' := [(9, .int 0), (8, .int x_4), (0, .ref 83), (1, .int v1), (2, .int v2), (3, .ref a3), (4, .int v4), (5, .int v5), (6, .int v6), (7, .int v7)]) hC dX8_laysOut_102 (by decide) rfl ?_
        refine zo_sub [2, 3, 4, 5, 6, 7, 8, 9, 0] (lv' := [(0, .ref 83), (1, .int v1), (2, .int v2), (3, .ref a3), (4, .int v4), (5, .int v5), (6, .int v6), (7, .int v7), (9, .int 0)]) rfl ?_
        refine Zf_X8_laysOut_104 hC a3 ha3 v1 v2 v4 v5 v6 v7 _ (fun I_8 L_9 => ?_) e_FU 0 I_7 L_3
        · refine zo_aload_n hC dX8_laysOut_124 rfl 0 rfl ?_
          refine zo_dup hC rfl dX8_laysOut_125 ?_
          refine zo_getL hC fk8_233 at_83 dX8_laysOut_126 ?_
          refine zo_aload_n hC dX8_laysOut_129 rfl 0 rfl ?_
          refine zo_iload_n hC dX8_laysOut_130 rfl 1 rfl ?_
          refine zo_callV_l hC (ci := 8) [.int v1] [.long (L_9 83 26), .ref 83] me_X8_scale mlX8_274 im_X8_scale se_X8_scale rfl (by decide) at_83 (fun p hp => T_X8_scale v1 I_8 L_9 p hp) (by decide) rfl (Nat.le_of_ble_eq_true rfl) dX8_laysOut_131 rfl (fun r_10 => ?_)
          refine zo_lmul hC dX8_laysOut_134 ?_
          refine zo_putL hC fk8_233 ff8_26 at_83 dX8_laysOut_135 ?_
          refine zo_topL (fun L_11 => ?_)
          refine zo_iinc hC (x := v7) (fun x_12 => [(7, .int x_12), (0, .ref 83), (1, .int v1), (2, .int v2), (3, .ref a3), (4, .int v4), (5, .int v5), (6, .int v6)]) dX8_laysOut_138 7 rfl (by rfl) (by decide) (fun _ => rfl) (fun x_12 => ?_)
          refine zo_goto (tgt := 32) hC dX8_laysOut_141 (by decide) ?_
          refine zo_sub [1, 2, 3, 4, 5, 6, 7, 0] (lv' := [(0, .ref 83), (1, .int v1), (2, .int v2), (3, .ref a3), (4, .int v4), (5, .int v5), (6, .int v6), (7, .int x_12)]) rfl ?_
          exact ih x_12 I_8 L_11

def f_X8_laysOut (a3 : Nat) (v1 : Int32) (v2 : Int32) (v4 : Int32) (v5 : Int32) (v6 : Int32) (I : e_I) (L : e_L) : Option (e_I × e_L) :=
  e_let (e_ul L 83 26 1) (fun (L_1 : e_L) =>
  f_X8_laysOut_8 a3 v1 v2 v4 v5 v6 (fun (I_2 : e_I) (L_3 : e_L) =>
    f_X8_laysOut_32 a3 v1 v2 v4 v5 v6 (fun (I_4 : e_I) (L_5 : e_L) =>
      some (I_4, L_5)) e_FU 1 I_2 L_3) e_FU 0 I L_1)
set_option maxRecDepth 100000 in
set_option maxHeartbeats 4000000 in
theorem Zf_X8_laysOut {X : e_X} (hC : e_C X cX8_laysOut RX8 10 none 9 gN) (a3 : Nat) (ha3 : e_ir a3) (v1 : Int32) (v2 : Int32) (v4 : Int32) (v5 : Int32) (v6 : Int32) (I : e_I) (L : e_L) : Zo X (ph_vIL) (f_X8_laysOut a3 v1 v2 v4 v5 v6 I L) 0 [(0, .ref 83), (1, .int v1), (2, .int v2), (3, .ref a3), (4, .int v4), (5, .int v5), (6, .int v6)] [] I L := by
  unfold f_X8_laysOut
  refine zo_aload_n hC dX8_laysOut_0 rfl 0 rfl ?_
  refine zo_lconst (v := 1) hC (by decide) dX8_laysOut_1 ?_
  refine zo_putL hC fk8_233 ff8_26 at_83 dX8_laysOut_2 ?_
  refine zo_topL (fun L_1 => ?_)
  refine zo_iconst (v := 0) hC (by decide) dX8_laysOut_5 ?_
  refine zo_istore (lv' := [(7, .int 0), (0, .ref 83), (1, .int v1), (2, .int v2), (3, .ref a3), (4, .int v4), (5, .int v5), (6, .int v6)]) hC dX8_laysOut_6 (by decide) rfl ?_
  refine zo_sub [1, 2, 3, 4, 5, 6, 7, 0] (lv' := [(0, .ref 83), (1, .int v1), (2, .int v2), (3, .ref a3), (4, .int v4), (5, .int v5), (6, .int v6), (7, .int 0)]) rfl ?_
  refine Zf_X8_laysOut_8 hC a3 ha3 v1 v2 v4 v5 v6 _ (fun I_2 L_3 => ?_) e_FU 0 I L_1
  · refine zo_iconst (v := 1) hC (by decide) dX8_laysOut_29 ?_
    refine zo_istore (lv' := [(7, .int 1), (0, .ref 83), (1, .int v1), (2, .int v2), (3, .ref a3), (4, .int v4), (5, .int v5), (6, .int v6)]) hC dX8_laysOut_30 (by decide) rfl ?_
    refine zo_sub [1, 2, 3, 4, 5, 6, 7, 0] (lv' := [(0, .ref 83), (1, .int v1), (2, .int v2), (3, .ref a3), (4, .int v4), (5, .int v5), (6, .int v6), (7, .int 1)]) rfl ?_
    refine Zf_X8_laysOut_32 hC a3 ha3 v1 v2 v4 v5 v6 _ (fun I_4 L_5 => ?_) e_FU 1 I_2 L_3
    · exact zo_vret hC rfl dX8_laysOut_144

theorem T_X8_laysOut (a3 : Nat) (ha3 : e_ir a3) (v1 : Int32) (v2 : Int32) (v4 : Int32) (v5 : Int32) (v6 : Int32) (I : e_I) (L : e_L) (p : e_I × e_L) (hp : f_X8_laysOut a3 v1 v2 v4 v5 v6 I L = some p) : Mt yX8_laysOut cX8_laysOut 10 none 9 gN [.ref 83, .int v1, .int v2, .ref a3, .int v4, .int v5, .int v6] I L ((ph_vIL) p) := zo_enter hp (by decide) (Nat.le_of_ble_eq_true rfl) (fun X hC => Zf_X8_laysOut hC a3 ha3 v1 v2 v4 v5 v6 I L)
def f_X8_laysNow (v1 : Int32) (v2 : Int32) (I : e_I) (L : e_L) : Option (e_I × e_L) :=
  e_let (e_ui I 83 27 (I 85 (4 : Int32).toNatClampNeg)) (fun (I_1 : e_I) =>
  e_b1 (f_X8_placeOf (I_1 85 (72 : Int32).toNatClampNeg) I_1) (fun (r_2 : Int32) =>
  e_b2 (f_X8_laysOut 85 v1 v2 60 r_2 (I_1 85 (73 : Int32).toNatClampNeg) I_1 L) (fun (I_3 : e_I) (L_4 : e_L) =>
  some (I_3, L_4))))
set_option maxRecDepth 100000 in
set_option maxHeartbeats 4000000 in
theorem Zf_X8_laysNow {X : e_X} (hC : e_C X cX8_laysNow RX8 3 none 10 gN) (v1 : Int32) (v2 : Int32) (I : e_I) (L : e_L) : Zo X (ph_vIL) (f_X8_laysNow v1 v2 I L) 0 [(0, .ref 83), (1, .int v1), (2, .int v2)] [] I L := by
  unfold f_X8_laysNow
  refine zo_aload_n hC dX8_laysNow_0 rfl 0 rfl ?_
  refine zo_aload_n hC dX8_laysNow_1 rfl 0 rfl ?_
  refine zo_getR hC (r := 85) fk8_17 (by decide) gr_83_7 at_83 dX8_laysNow_2 ?_
  refine zo_iconst (v := 4) hC (by decide) dX8_laysNow_5 ?_
  refine zo_iald hC ar_85 (e_ix_vp (by decide)) dX8_laysNow_6 ?_
  refine zo_putI hC fk8_254 ff8_27 at_83 dX8_laysNow_7 ?_
  refine zo_topI (fun I_1 => ?_)
  refine zo_aload_n hC dX8_laysNow_10 rfl 0 rfl ?_
  refine zo_iload_n hC dX8_laysNow_11 rfl 1 rfl ?_
  refine zo_iload_n hC dX8_laysNow_12 rfl 2 rfl ?_
  refine zo_aload_n hC dX8_laysNow_13 rfl 0 rfl ?_
  refine zo_getR hC (r := 85) fk8_17 (by decide) gr_83_7 at_83 dX8_laysNow_14 ?_
  refine zo_bipush (v := 60) hC (by decide) dX8_laysNow_17 ?_
  refine zo_aload_n hC dX8_laysNow_19 rfl 0 rfl ?_
  refine zo_aload_n hC dX8_laysNow_20 rfl 0 rfl ?_
  refine zo_getR hC (r := 85) fk8_17 (by decide) gr_83_7 at_83 dX8_laysNow_21 ?_
  refine zo_bipush (v := 72) hC (by decide) dX8_laysNow_24 ?_
  refine zo_iald hC ar_85 (e_ix_vp (by decide)) dX8_laysNow_26 ?_
  refine zo_callV_i hC (ci := 8) [.int (I_1 85 (72 : Int32).toNatClampNeg)] [.int 60, .ref 85, .int v2, .int v1, .ref 83] me_X8_placeOf mlX8_195 im_X8_placeOf se_X8_placeOf rfl (by decide) at_83 (fun p hp => T_X8_placeOf (I_1 85 (72 : Int32).toNatClampNeg) I_1 L p hp) (by decide) rfl (Nat.le_of_ble_eq_true rfl) dX8_laysNow_27 rfl (fun r_2 => ?_)
  refine zo_aload_n hC dX8_laysNow_30 rfl 0 rfl ?_
  refine zo_getR hC (r := 85) fk8_17 (by decide) gr_83_7 at_83 dX8_laysNow_31 ?_
  refine zo_bipush (v := 73) hC (by decide) dX8_laysNow_34 ?_
  refine zo_iald hC ar_85 (e_ix_vp (by decide)) dX8_laysNow_36 ?_
  refine zo_callV_vIL hC (ci := 8) [.int v1, .int v2, .ref 85, .int 60, .int r_2, .int (I_1 85 (73 : Int32).toNatClampNeg)] [] me_X8_laysOut mlX8_278 im_X8_laysOut se_X8_laysOut rfl (by decide) at_83 (fun p hp => T_X8_laysOut 85 ir_85 v1 v2 60 r_2 (I_1 85 (73 : Int32).toNatClampNeg) I_1 L p hp) (by decide) rfl (Nat.le_of_ble_eq_true rfl) dX8_laysNow_37 rfl (fun I_3 L_4 => ?_)
  exact zo_vret hC rfl dX8_laysNow_40

theorem T_X8_laysNow (v1 : Int32) (v2 : Int32) (I : e_I) (L : e_L) (p : e_I × e_L) (hp : f_X8_laysNow v1 v2 I L = some p) : Mt yX8_laysNow cX8_laysNow 3 none 10 gN [.ref 83, .int v1, .int v2] I L ((ph_vIL) p) := zo_enter hp (by decide) (Nat.le_of_ble_eq_true rfl) (fun X hC => Zf_X8_laysNow hC v1 v2 I L)
def f_X8_common_28 (k53 : Int64 → Option (Int64)) : Nat → Int64 → Int64 → Option (Int64)
  | 0, _, _ => none
  | n + 1, v4, v6 =>
    if (lg_cmp v6 0) = 0 then (
      k53 v4)
    else (
      e_as (¬ v6 = 0) (
      e_let (e_rml v4 v6) (fun (x_3 : Int64) =>
      f_X8_common_28 k53 n v6 x_3)))
set_option maxRecDepth 100000 in
set_option maxHeartbeats 4000000 in
theorem Zf_X8_common_28 {X : e_X} (hC : e_C X cX8_common RX8 10 (some .long) 0 gN) (I : e_I) (L : e_L) (k53 : Int64 → Option (Int64)) (hk53 : ∀ (v4 : Int64), Zo X (ph_l I L) (k53 v4) 53 [(4, .long v4)] [] I L) : ∀ (n : Nat) (v4 : Int64) (v6 : Int64), Zo X (ph_l I L) (f_X8_common_28 k53 n v4 v6) 28 [(4, .long v4), (6, .long v6)] [] I L := by
  intro n
  induction n with
  | zero => intro v4 v6 p hp; cases hp
  | succ n ih =>
    intro v4 v6
    unfold f_X8_common_28
    refine zo_lload hC dX8_common_28 1 rfl ?_
    refine zo_lconst (v := 0) hC (by decide) dX8_common_30 ?_
    refine zo_lcmp hC dX8_common_31 ?_
    refine zo_if_eq (tgt := 53) hC dX8_common_32 (by decide) (fun c_1 => ?_) (fun c_1 => ?_)
    · refine zo_sub [0] (lv' := [(4, .long v4)]) rfl ?_
      exact hk53 v4
    · refine zo_lload hC dX8_common_35 0 rfl ?_
      refine zo_lload hC dX8_common_37 1 rfl ?_
      refine zo_as (fun h_2 => ?_)
      refine zo_lrem_ hC h_2 dX8_common_39 ?_
      refine zo_topl (fun x_3 => ?_)
      refine zo_lstore (lv' := [(8, .long x_3), (4, .long v4), (6, .long v6)]) hC dX8_common_40 (by decide) rfl ?_
      refine zo_lload hC dX8_common_42 2 rfl ?_
      refine zo_lstore (lv' := [(4, .long v6), (8, .long x_3), (6, .long v6)]) hC dX8_common_44 (by decide) rfl ?_
      refine zo_lload hC dX8_common_46 1 rfl ?_
      refine zo_lstore (lv' := [(6, .long x_3), (4, .long v6), (8, .long x_3)]) hC dX8_common_48 (by decide) rfl ?_
      refine zo_goto (tgt := 28) hC dX8_common_50 (by decide) ?_
      refine zo_sub [1, 0] (lv' := [(4, .long v6), (6, .long x_3)]) rfl ?_
      exact ih v6 x_3

def f_X8_common_26 (v4 : Int64) (s0 : Int64) : Option (Int64) :=
  f_X8_common_28 (fun (v4_1 : Int64) =>
    some v4_1) e_FU v4 s0
set_option maxRecDepth 100000 in
set_option maxHeartbeats 4000000 in
theorem Zf_X8_common_26 {X : e_X} (hC : e_C X cX8_common RX8 10 (some .long) 0 gN) (I : e_I) (L : e_L) (v4 : Int64) (s0 : Int64) : Zo X (ph_l I L) (f_X8_common_26 v4 s0) 26 [(4, .long v4)] [.long s0] I L := by
  unfold f_X8_common_26
  refine zo_lstore (lv' := [(6, .long s0), (4, .long v4)]) hC dX8_common_26 (by decide) rfl ?_
  refine zo_sub [1, 0] (lv' := [(4, .long v4), (6, .long s0)]) rfl ?_
  refine Zf_X8_common_28 hC I L _ (fun v4_1 => ?_) e_FU v4 s0
  · refine zo_lload hC dX8_common_53 0 rfl ?_
    exact zo_lret hC rfl dX8_common_55

def f_X8_common_12 (v2 : Int64) (s0 : Int64) : Option (Int64) :=
  if (lg_cmp v2 0) ≥ 0 then (
    f_X8_common_26 s0 v2)
  else (
    f_X8_common_26 s0 (-v2))
set_option maxRecDepth 100000 in
set_option maxHeartbeats 4000000 in
theorem Zf_X8_common_12 {X : e_X} (hC : e_C X cX8_common RX8 10 (some .long) 0 gN) (I : e_I) (L : e_L) (v2 : Int64) (s0 : Int64) : Zo X (ph_l I L) (f_X8_common_12 v2 s0) 12 [(2, .long v2)] [.long s0] I L := by
  unfold f_X8_common_12
  refine zo_lstore (lv' := [(4, .long s0), (2, .long v2)]) hC dX8_common_12 (by decide) rfl ?_
  refine zo_lload_n hC dX8_common_14 rfl 1 rfl ?_
  refine zo_lconst (v := 0) hC (by decide) dX8_common_15 ?_
  refine zo_lcmp hC dX8_common_16 ?_
  refine zo_if_ge (tgt := 25) hC dX8_common_17 (by decide) (fun c_1 => ?_) (fun c_1 => ?_)
  · refine zo_lload_n hC dX8_common_25 rfl 1 rfl ?_
    refine zo_sub [0] (lv' := [(4, .long s0)]) rfl ?_
    exact Zf_X8_common_26 hC I L s0 v2
  · refine zo_lload_n hC dX8_common_20 rfl 1 rfl ?_
    refine zo_lneg hC dX8_common_21 ?_
    refine zo_goto (tgt := 26) hC dX8_common_22 (by decide) ?_
    refine zo_sub [0] (lv' := [(4, .long s0)]) rfl ?_
    exact Zf_X8_common_26 hC I L s0 (-v2)

def f_X8_common (v0 : Int64) (v2 : Int64) : Option (Int64) :=
  if (lg_cmp v0 0) ≥ 0 then (
    f_X8_common_12 v2 v0)
  else (
    f_X8_common_12 v2 (-v0))
set_option maxRecDepth 100000 in
set_option maxHeartbeats 4000000 in
theorem Zf_X8_common {X : e_X} (hC : e_C X cX8_common RX8 10 (some .long) 0 gN) (v0 : Int64) (v2 : Int64) (I : e_I) (L : e_L) : Zo X (ph_l I L) (f_X8_common v0 v2) 0 [(0, .long v0), (2, .long v2)] [] I L := by
  unfold f_X8_common
  refine zo_lload_n hC dX8_common_0 rfl 0 rfl ?_
  refine zo_lconst (v := 0) hC (by decide) dX8_common_1 ?_
  refine zo_lcmp hC dX8_common_2 ?_
  refine zo_if_ge (tgt := 11) hC dX8_common_3 (by decide) (fun c_1 => ?_) (fun c_1 => ?_)
  · refine zo_lload_n hC dX8_common_11 rfl 0 rfl ?_
    refine zo_sub [1] (lv' := [(2, .long v2)]) rfl ?_
    exact Zf_X8_common_12 hC I L v2 v0
  · refine zo_lload_n hC dX8_common_6 rfl 0 rfl ?_
    refine zo_lneg hC dX8_common_7 ?_
    refine zo_goto (tgt := 12) hC dX8_common_8 (by decide) ?_
    refine zo_sub [1] (lv' := [(2, .long v2)]) rfl ?_
    exact Zf_X8_common_12 hC I L v2 (-v0)

theorem T_X8_common (v0 : Int64) (v2 : Int64) (I : e_I) (L : e_L) (p : Int64) (hp : f_X8_common v0 v2 = some p) : Mt yX8_common cX8_common 10 (some .long) 0 gN [.long v0, .long v2] I L ((ph_l I L) p) := zo_enter hp (by decide) (Nat.le_of_ble_eq_true rfl) (fun X hC => Zf_X8_common hC v0 v2 I L)
def f_X8_part_10 (v0 : Int64) (v2 : Int64) (s0 : Int64) : Option (Int64) :=
  e_b1 (f_X8_common v2 v0) (fun (r_1 : Int64) =>
  e_as (¬ r_1 = 0) (
  some (s0 / r_1)))
set_option maxRecDepth 100000 in
set_option maxHeartbeats 4000000 in
theorem Zf_X8_part_10 {X : e_X} (hC : e_C X cX8_part RX8 5 (some .long) 1 gN) (I : e_I) (L : e_L) (v0 : Int64) (v2 : Int64) (s0 : Int64) : Zo X (ph_l I L) (f_X8_part_10 v0 v2 s0) 10 [(0, .long v0), (2, .long v2)] [.long s0] I L := by
  unfold f_X8_part_10
  refine zo_lload_n hC dX8_part_10 rfl 1 rfl ?_
  refine zo_lload_n hC dX8_part_11 rfl 0 rfl ?_
  refine zo_callS_l hC [.long v2, .long v0] [.long s0] me_X8_common mlX8_282 sm_X8_common (fun p hp => T_X8_common v2 v0 I L p hp) (by decide) rfl (Nat.le_of_ble_eq_true rfl) dX8_part_12 rfl (fun r_1 => ?_)
  refine zo_as (fun h_2 => ?_)
  refine zo_ldiv hC h_2 dX8_part_15 ?_
  exact zo_lret hC rfl dX8_part_16

def f_X8_part (v0 : Int64) (v2 : Int64) (v4 : Int32) : Option (Int64) :=
  if v4 ≠ 0 then (
    f_X8_part_10 v0 v2 v2)
  else (
    f_X8_part_10 v0 v2 v0)
set_option maxRecDepth 100000 in
set_option maxHeartbeats 4000000 in
theorem Zf_X8_part {X : e_X} (hC : e_C X cX8_part RX8 5 (some .long) 1 gN) (v0 : Int64) (v2 : Int64) (v4 : Int32) (I : e_I) (L : e_L) : Zo X (ph_l I L) (f_X8_part v0 v2 v4) 0 [(0, .long v0), (2, .long v2), (4, .int v4)] [] I L := by
  unfold f_X8_part
  refine zo_iload hC dX8_part_0 2 rfl ?_
  refine zo_if_ne (tgt := 9) hC dX8_part_2 (by decide) (fun c_1 => ?_) (fun c_1 => ?_)
  · refine zo_lload_n hC dX8_part_9 rfl 1 rfl ?_
    refine zo_sub [0, 1] (lv' := [(0, .long v0), (2, .long v2)]) rfl ?_
    exact Zf_X8_part_10 hC I L v0 v2 v2
  · refine zo_lload_n hC dX8_part_5 rfl 0 rfl ?_
    refine zo_goto (tgt := 10) hC dX8_part_6 (by decide) ?_
    refine zo_sub [0, 1] (lv' := [(0, .long v0), (2, .long v2)]) rfl ?_
    exact Zf_X8_part_10 hC I L v0 v2 v0

theorem T_X8_part (v0 : Int64) (v2 : Int64) (v4 : Int32) (I : e_I) (L : e_L) (p : Int64) (hp : f_X8_part v0 v2 v4 = some p) : Mt yX8_part cX8_part 5 (some .long) 1 gN [.long v0, .long v2, .int v4] I L ((ph_l I L) p) := zo_enter hp (by decide) (Nat.le_of_ble_eq_true rfl) (fun X hC => Zf_X8_part hC v0 v2 v4 I L)
def f_X8_whyNot_39 (I : e_I) (s0 : Int32) (s1 : Int32) : Option (Int32) :=
  e_b1 (f_X8_unless_ s1 s0) (fun (r_1 : Int32) =>
  some r_1)
set_option maxRecDepth 100000 in
set_option maxHeartbeats 4000000 in
theorem Zf_X8_whyNot_39 {X : e_X} (hC : e_C X cX8_whyNot RX8 5 (some .int) 2 gN) (I : e_I) (L : e_L) (s0 : Int32) (s1 : Int32) : Zo X (ph_i I L) (f_X8_whyNot_39 I s0 s1) 39 [] [.int s0, .int s1] I L := by
  unfold f_X8_whyNot_39
  refine zo_callS_i hC [.int s1, .int s0] [] me_X8_unless_ mlX8_158 sm_X8_unless_ (fun p hp => T_X8_unless_ s1 s0 I L p hp) (by decide) rfl (Nat.le_of_ble_eq_true rfl) dX8_whyNot_39 rfl (fun r_1 => ?_)
  exact zo_iret hC rfl dX8_whyNot_42

def f_X8_whyNot_38 (I : e_I) (s0 : Int32) : Option (Int32) :=
  f_X8_whyNot_39 I 0 s0
set_option maxRecDepth 100000 in
set_option maxHeartbeats 4000000 in
theorem Zf_X8_whyNot_38 {X : e_X} (hC : e_C X cX8_whyNot RX8 5 (some .int) 2 gN) (I : e_I) (L : e_L) (s0 : Int32) : Zo X (ph_i I L) (f_X8_whyNot_38 I s0) 38 [] [.int s0] I L := by
  unfold f_X8_whyNot_38
  refine zo_iconst (v := 0) hC (by decide) dX8_whyNot_38 ?_
  exact Zf_X8_whyNot_39 hC I L 0 s0

def f_X8_whyNot_16 (I : e_I) (v2 : Int32) (v3 : Int32) (v4 : Int32) (s0 : Int32) : Option (Int32) :=
  e_b1 (f_X8_isState v2 v3) (fun (r_1 : Int32) =>
  if r_1 = 0 then (
    f_X8_whyNot_38 I s0)
  else (
    e_b1 (f_X8_in v4 1 5) (fun (r_3 : Int32) =>
    if r_3 = 0 then (
      f_X8_whyNot_38 I s0)
    else (
      f_X8_whyNot_39 I 1 s0))))
set_option maxRecDepth 100000 in
set_option maxHeartbeats 4000000 in
theorem Zf_X8_whyNot_16 {X : e_X} (hC : e_C X cX8_whyNot RX8 5 (some .int) 2 gN) (I : e_I) (L : e_L) (v2 : Int32) (v3 : Int32) (v4 : Int32) (s0 : Int32) : Zo X (ph_i I L) (f_X8_whyNot_16 I v2 v3 v4 s0) 16 [(2, .int v2), (3, .int v3), (4, .int v4)] [.int s0] I L := by
  unfold f_X8_whyNot_16
  refine zo_iload_n hC dX8_whyNot_16 rfl 0 rfl ?_
  refine zo_iload_n hC dX8_whyNot_17 rfl 1 rfl ?_
  refine zo_callS_i hC [.int v2, .int v3] [.int s0] me_X8_isState mlX8_222 sm_X8_isState (fun p hp => T_X8_isState v2 v3 I L p hp) (by decide) rfl (Nat.le_of_ble_eq_true rfl) dX8_whyNot_18 rfl (fun r_1 => ?_)
  refine zo_if_eq (tgt := 38) hC dX8_whyNot_21 (by decide) (fun c_2 => ?_) (fun c_2 => ?_)
  · refine zo_sub [] (lv' := []) rfl ?_
    exact Zf_X8_whyNot_38 hC I L s0
  · refine zo_iload hC dX8_whyNot_24 2 rfl ?_
    refine zo_iconst (v := 1) hC (by decide) dX8_whyNot_26 ?_
    refine zo_iconst (v := 5) hC (by decide) dX8_whyNot_27 ?_
    refine zo_callS_i hC [.int v4, .int 1, .int 5] [.int s0] me_X8_in mlX8_83 sm_X8_in (fun p hp => T_X8_in v4 1 5 I L p hp) (by decide) rfl (Nat.le_of_ble_eq_true rfl) dX8_whyNot_28 rfl (fun r_3 => ?_)
    refine zo_if_eq (tgt := 38) hC dX8_whyNot_31 (by decide) (fun c_4 => ?_) (fun c_4 => ?_)
    · refine zo_sub [] (lv' := []) rfl ?_
      exact Zf_X8_whyNot_38 hC I L s0
    · refine zo_iconst (v := 1) hC (by decide) dX8_whyNot_34 ?_
      refine zo_goto (tgt := 39) hC dX8_whyNot_35 (by decide) ?_
      refine zo_sub [] (lv' := []) rfl ?_
      exact Zf_X8_whyNot_39 hC I L 1 s0

def f_X8_whyNot_15 (I : e_I) (v2 : Int32) (v3 : Int32) (v4 : Int32) : Option (Int32) :=
  f_X8_whyNot_16 I v2 v3 v4 0
set_option maxRecDepth 100000 in
set_option maxHeartbeats 4000000 in
theorem Zf_X8_whyNot_15 {X : e_X} (hC : e_C X cX8_whyNot RX8 5 (some .int) 2 gN) (I : e_I) (L : e_L) (v2 : Int32) (v3 : Int32) (v4 : Int32) : Zo X (ph_i I L) (f_X8_whyNot_15 I v2 v3 v4) 15 [(2, .int v2), (3, .int v3), (4, .int v4)] [] I L := by
  unfold f_X8_whyNot_15
  refine zo_iconst (v := 0) hC (by decide) dX8_whyNot_15 ?_
  exact Zf_X8_whyNot_16 hC I L v2 v3 v4 0

def f_X8_whyNot (v1 : Int32) (v2 : Int32) (v3 : Int32) (v4 : Int32) (I : e_I) : Option (Int32) :=
  if (I 83 6) = 0 then (
    f_X8_whyNot_15 I v2 v3 v4)
  else (
    if v1 = 0 then (
      f_X8_whyNot_15 I v2 v3 v4)
    else (
      f_X8_whyNot_16 I v2 v3 v4 1))
set_option maxRecDepth 100000 in
set_option maxHeartbeats 4000000 in
theorem Zf_X8_whyNot {X : e_X} (hC : e_C X cX8_whyNot RX8 5 (some .int) 2 gN) (v1 : Int32) (v2 : Int32) (v3 : Int32) (v4 : Int32) (I : e_I) (L : e_L) : Zo X (ph_i I L) (f_X8_whyNot v1 v2 v3 v4 I) 0 [(0, .ref 83), (1, .int v1), (2, .int v2), (3, .int v3), (4, .int v4)] [] I L := by
  unfold f_X8_whyNot
  refine zo_aload_n hC dX8_whyNot_0 rfl 0 rfl ?_
  refine zo_getZ hC fk8_174 at_83 dX8_whyNot_1 ?_
  refine zo_if_eq (tgt := 15) hC dX8_whyNot_4 (by decide) (fun c_1 => ?_) (fun c_1 => ?_)
  · refine zo_sub [2, 3, 4] (lv' := [(2, .int v2), (3, .int v3), (4, .int v4)]) rfl ?_
    exact Zf_X8_whyNot_15 hC I L v2 v3 v4
  · refine zo_iload_n hC dX8_whyNot_7 rfl 1 rfl ?_
    refine zo_if_eq (tgt := 15) hC dX8_whyNot_8 (by decide) (fun c_2 => ?_) (fun c_2 => ?_)
    · refine zo_sub [2, 3, 4] (lv' := [(2, .int v2), (3, .int v3), (4, .int v4)]) rfl ?_
      exact Zf_X8_whyNot_15 hC I L v2 v3 v4
    · refine zo_iconst (v := 1) hC (by decide) dX8_whyNot_11 ?_
      refine zo_goto (tgt := 16) hC dX8_whyNot_12 (by decide) ?_
      refine zo_sub [2, 3, 4] (lv' := [(2, .int v2), (3, .int v3), (4, .int v4)]) rfl ?_
      exact Zf_X8_whyNot_16 hC I L v2 v3 v4 1

theorem T_X8_whyNot (v1 : Int32) (v2 : Int32) (v3 : Int32) (v4 : Int32) (I : e_I) (L : e_L) (p : Int32) (hp : f_X8_whyNot v1 v2 v3 v4 I = some p) : Mt yX8_whyNot cX8_whyNot 5 (some .int) 2 gN [.ref 83, .int v1, .int v2, .int v3, .int v4] I L ((ph_i I L) p) := zo_enter hp (by decide) (Nat.le_of_ble_eq_true rfl) (fun X hC => Zf_X8_whyNot hC v1 v2 v3 v4 I L)
def f_X8_toCome (v1 : Int32) (v2 : Int32) (v3 : Int32) (v4 : Int32) (v5 : Int32) (I : e_I) (L : e_L) : Option (Int64 × e_I × e_L) :=
  e_b1 (f_X8_in v5 0 1) (fun (r_1 : Int32) =>
  e_b1 (f_X8_whyNot r_1 v2 v3 v4 I) (fun (r_2 : Int32) =>
  e_b2 (f_X8_isRefused r_2 I) (fun (r_3 : Int32) (I_4 : e_I) =>
  if r_3 = 0 then (
    e_b2 (f_X8_laysNow v1 v4 I_4 L) (fun (I_6 : e_I) (L_7 : e_L) =>
    e_as (e_ix (((8 : Int32) * v3) + v2) 24 = true) (
    e_b1 (f_X8_part (L_7 89 (((8 : Int32) * v3) + v2).toNatClampNeg) (L_7 83 26) v5) (fun (r_9 : Int64) =>
    some (r_9, I_6, L_7)))))
  else (
    some ((-1), I_4, L)))))
set_option maxRecDepth 100000 in
set_option maxHeartbeats 4000000 in
theorem Zf_X8_toCome {X : e_X} (hC : e_C X cX8_toCome RX8 6 (some .long) 11 gN) (v1 : Int32) (v2 : Int32) (v3 : Int32) (v4 : Int32) (v5 : Int32) (I : e_I) (L : e_L) : Zo X (ph_lIL) (f_X8_toCome v1 v2 v3 v4 v5 I L) 0 [(0, .ref 83), (1, .int v1), (2, .int v2), (3, .int v3), (4, .int v4), (5, .int v5)] [] I L := by
  unfold f_X8_toCome
  refine zo_aload_n hC dX8_toCome_0 rfl 0 rfl ?_
  refine zo_aload_n hC dX8_toCome_1 rfl 0 rfl ?_
  refine zo_iload hC dX8_toCome_2 5 rfl ?_
  refine zo_iconst (v := 0) hC (by decide) dX8_toCome_4 ?_
  refine zo_iconst (v := 1) hC (by decide) dX8_toCome_5 ?_
  refine zo_callS_i hC [.int v5, .int 0, .int 1] [.ref 83, .ref 83] me_X8_in mlX8_83 sm_X8_in (fun p hp => T_X8_in v5 0 1 I L p hp) (by decide) rfl (Nat.le_of_ble_eq_true rfl) dX8_toCome_6 rfl (fun r_1 => ?_)
  refine zo_iload_n hC dX8_toCome_9 rfl 2 rfl ?_
  refine zo_iload_n hC dX8_toCome_10 rfl 3 rfl ?_
  refine zo_iload hC dX8_toCome_11 4 rfl ?_
  refine zo_callV_i hC (ci := 8) [.int r_1, .int v2, .int v3, .int v4] [.ref 83] me_X8_whyNot mlX8_286 im_X8_whyNot se_X8_whyNot rfl (by decide) at_83 (fun p hp => T_X8_whyNot r_1 v2 v3 v4 I L p hp) (by decide) rfl (Nat.le_of_ble_eq_true rfl) dX8_toCome_13 rfl (fun r_2 => ?_)
  refine zo_callV_iI hC (ci := 8) [.int r_2] [] me_X8_isRefused mlX8_162 im_X8_isRefused se_X8_isRefused rfl (by decide) at_83 (fun p hp => T_X8_isRefused r_2 I L p hp) (by decide) rfl (Nat.le_of_ble_eq_true rfl) dX8_toCome_16 rfl (fun r_3 I_4 => ?_)
  refine zo_if_eq (tgt := 26) hC dX8_toCome_19 (by decide) (fun c_5 => ?_) (fun c_5 => ?_)
  · refine zo_aload_n hC dX8_toCome_26 rfl 0 rfl ?_
    refine zo_iload_n hC dX8_toCome_27 rfl 1 rfl ?_
    refine zo_iload hC dX8_toCome_28 4 rfl ?_
    refine zo_callV_vIL hC (ci := 8) [.int v1, .int v4] [] me_X8_laysNow mlX8_292 im_X8_laysNow se_X8_laysNow rfl (by decide) at_83 (fun p hp => T_X8_laysNow v1 v4 I_4 L p hp) (by decide) rfl (Nat.le_of_ble_eq_true rfl) dX8_toCome_30 rfl (fun I_6 L_7 => ?_)
    refine zo_aload_n hC dX8_toCome_33 rfl 0 rfl ?_
    refine zo_getR hC (r := 89) fk8_29 (by decide) gr_83_22 at_83 dX8_toCome_34 ?_
    refine zo_bipush (v := 8) hC (by decide) dX8_toCome_37 ?_
    refine zo_iload_n hC dX8_toCome_39 rfl 3 rfl ?_
    refine zo_imul hC dX8_toCome_40 ?_
    refine zo_iload_n hC dX8_toCome_41 rfl 2 rfl ?_
    refine zo_iadd hC dX8_toCome_42 ?_
    refine zo_as (fun h_8 => ?_)
    refine zo_lald hC ar_89 (e_ix_vp h_8) dX8_toCome_43 ?_
    refine zo_aload_n hC dX8_toCome_44 rfl 0 rfl ?_
    refine zo_getL hC fk8_233 at_83 dX8_toCome_45 ?_
    refine zo_iload hC dX8_toCome_48 5 rfl ?_
    refine zo_callS_l hC [.long (L_7 89 (((8 : Int32) * v3) + v2).toNatClampNeg), .long (L_7 83 26), .int v5] [] me_X8_part mlX8_295 sm_X8_part (fun p hp => T_X8_part (L_7 89 (((8 : Int32) * v3) + v2).toNatClampNeg) (L_7 83 26) v5 I_6 L_7 p hp) (by decide) rfl (Nat.le_of_ble_eq_true rfl) dX8_toCome_50 rfl (fun r_9 => ?_)
    exact zo_lret hC rfl dX8_toCome_53
  · refine zo_ldc2 (v := (-1)) hC clX8_290 dX8_toCome_22 ?_
    exact zo_lret hC rfl dX8_toCome_25

theorem T_X8_toCome (v1 : Int32) (v2 : Int32) (v3 : Int32) (v4 : Int32) (v5 : Int32) (I : e_I) (L : e_L) (p : Int64 × e_I × e_L) (hp : f_X8_toCome v1 v2 v3 v4 v5 I L = some p) : Mt yX8_toCome cX8_toCome 6 (some .long) 11 gN [.ref 83, .int v1, .int v2, .int v3, .int v4, .int v5] I L ((ph_lIL) p) := zo_enter hp (by decide) (Nat.le_of_ble_eq_true rfl) (fun X hC => Zf_X8_toCome hC v1 v2 v3 v4 v5 I L)
def f_X8_plain (v1 : Int32) (v2 : Int32) (v3 : Int32) (v4 : Int32) (I : e_I) (L : e_L) : Option (Int64 × e_I × e_L) :=
  e_b3 (f_X8_toCome 0 v1 v2 v3 v4 I L) (fun (r_1 : Int64) (I_2 : e_I) (L_3 : e_L) =>
  some (r_1, I_2, L_3))
set_option maxRecDepth 100000 in
set_option maxHeartbeats 4000000 in
theorem Zf_X8_plain {X : e_X} (hC : e_C X cX8_plain RX8 5 (some .long) 12 gN) (v1 : Int32) (v2 : Int32) (v3 : Int32) (v4 : Int32) (I : e_I) (L : e_L) : Zo X (ph_lIL) (f_X8_plain v1 v2 v3 v4 I L) 0 [(0, .ref 83), (1, .int v1), (2, .int v2), (3, .int v3), (4, .int v4)] [] I L := by
  unfold f_X8_plain
  refine zo_aload_n hC dX8_plain_0 rfl 0 rfl ?_
  refine zo_iconst (v := 0) hC (by decide) dX8_plain_1 ?_
  refine zo_iload_n hC dX8_plain_2 rfl 1 rfl ?_
  refine zo_iload_n hC dX8_plain_3 rfl 2 rfl ?_
  refine zo_iload_n hC dX8_plain_4 rfl 3 rfl ?_
  refine zo_iload hC dX8_plain_5 4 rfl ?_
  refine zo_callV_lIL hC (ci := 8) [.int 0, .int v1, .int v2, .int v3, .int v4] [] me_X8_toCome mlX8_299 im_X8_toCome se_X8_toCome rfl (by decide) at_83 (fun p hp => T_X8_toCome 0 v1 v2 v3 v4 I L p hp) (by decide) rfl (Nat.le_of_ble_eq_true rfl) dX8_plain_7 rfl (fun r_1 I_2 L_3 => ?_)
  exact zo_lret hC rfl dX8_plain_10

theorem T_X8_plain (v1 : Int32) (v2 : Int32) (v3 : Int32) (v4 : Int32) (I : e_I) (L : e_L) (p : Int64 × e_I × e_L) (hp : f_X8_plain v1 v2 v3 v4 I L = some p) : Mt yX8_plain cX8_plain 5 (some .long) 12 gN [.ref 83, .int v1, .int v2, .int v3, .int v4] I L ((ph_lIL) p) := zo_enter hp (by decide) (Nat.le_of_ble_eq_true rfl) (fun X hC => Zf_X8_plain hC v1 v2 v3 v4 I L)
def f_X8_any (v1 : Int32) (v2 : Int32) (v3 : Int32) (v4 : Int32) (I : e_I) (L : e_L) : Option (Int64 × e_I × e_L) :=
  e_b3 (f_X8_toCome 1 v1 v2 v3 v4 I L) (fun (r_1 : Int64) (I_2 : e_I) (L_3 : e_L) =>
  some (r_1, I_2, L_3))
set_option maxRecDepth 100000 in
set_option maxHeartbeats 4000000 in
theorem Zf_X8_any {X : e_X} (hC : e_C X cX8_any RX8 5 (some .long) 12 gN) (v1 : Int32) (v2 : Int32) (v3 : Int32) (v4 : Int32) (I : e_I) (L : e_L) : Zo X (ph_lIL) (f_X8_any v1 v2 v3 v4 I L) 0 [(0, .ref 83), (1, .int v1), (2, .int v2), (3, .int v3), (4, .int v4)] [] I L := by
  unfold f_X8_any
  refine zo_aload_n hC dX8_any_0 rfl 0 rfl ?_
  refine zo_iconst (v := 1) hC (by decide) dX8_any_1 ?_
  refine zo_iload_n hC dX8_any_2 rfl 1 rfl ?_
  refine zo_iload_n hC dX8_any_3 rfl 2 rfl ?_
  refine zo_iload_n hC dX8_any_4 rfl 3 rfl ?_
  refine zo_iload hC dX8_any_5 4 rfl ?_
  refine zo_callV_lIL hC (ci := 8) [.int 1, .int v1, .int v2, .int v3, .int v4] [] me_X8_toCome mlX8_299 im_X8_toCome se_X8_toCome rfl (by decide) at_83 (fun p hp => T_X8_toCome 1 v1 v2 v3 v4 I L p hp) (by decide) rfl (Nat.le_of_ble_eq_true rfl) dX8_any_7 rfl (fun r_1 I_2 L_3 => ?_)
  exact zo_lret hC rfl dX8_any_10

theorem T_X8_any (v1 : Int32) (v2 : Int32) (v3 : Int32) (v4 : Int32) (I : e_I) (L : e_L) (p : Int64 × e_I × e_L) (hp : f_X8_any v1 v2 v3 v4 I L = some p) : Mt yX8_any cX8_any 5 (some .long) 12 gN [.ref 83, .int v1, .int v2, .int v3, .int v4] I L ((ph_lIL) p) := zo_enter hp (by decide) (Nat.le_of_ble_eq_true rfl) (fun X hC => Zf_X8_any hC v1 v2 v3 v4 I L)
def f_X8_wise (v1 : Int32) (v2 : Int32) (v3 : Int32) (v4 : Int32) (I : e_I) (L : e_L) : Option (Int64 × e_I × e_L) :=
  e_b3 (f_X8_toCome 2 v1 v2 v3 v4 I L) (fun (r_1 : Int64) (I_2 : e_I) (L_3 : e_L) =>
  some (r_1, I_2, L_3))
set_option maxRecDepth 100000 in
set_option maxHeartbeats 4000000 in
theorem Zf_X8_wise {X : e_X} (hC : e_C X cX8_wise RX8 5 (some .long) 12 gN) (v1 : Int32) (v2 : Int32) (v3 : Int32) (v4 : Int32) (I : e_I) (L : e_L) : Zo X (ph_lIL) (f_X8_wise v1 v2 v3 v4 I L) 0 [(0, .ref 83), (1, .int v1), (2, .int v2), (3, .int v3), (4, .int v4)] [] I L := by
  unfold f_X8_wise
  refine zo_aload_n hC dX8_wise_0 rfl 0 rfl ?_
  refine zo_iconst (v := 2) hC (by decide) dX8_wise_1 ?_
  refine zo_iload_n hC dX8_wise_2 rfl 1 rfl ?_
  refine zo_iload_n hC dX8_wise_3 rfl 2 rfl ?_
  refine zo_iload_n hC dX8_wise_4 rfl 3 rfl ?_
  refine zo_iload hC dX8_wise_5 4 rfl ?_
  refine zo_callV_lIL hC (ci := 8) [.int 2, .int v1, .int v2, .int v3, .int v4] [] me_X8_toCome mlX8_299 im_X8_toCome se_X8_toCome rfl (by decide) at_83 (fun p hp => T_X8_toCome 2 v1 v2 v3 v4 I L p hp) (by decide) rfl (Nat.le_of_ble_eq_true rfl) dX8_wise_7 rfl (fun r_1 I_2 L_3 => ?_)
  exact zo_lret hC rfl dX8_wise_10

theorem T_X8_wise (v1 : Int32) (v2 : Int32) (v3 : Int32) (v4 : Int32) (I : e_I) (L : e_L) (p : Int64 × e_I × e_L) (hp : f_X8_wise v1 v2 v3 v4 I L = some p) : Mt yX8_wise cX8_wise 5 (some .long) 12 gN [.ref 83, .int v1, .int v2, .int v3, .int v4] I L ((ph_lIL) p) := zo_enter hp (by decide) (Nat.le_of_ble_eq_true rfl) (fun X hC => Zf_X8_wise hC v1 v2 v3 v4 I L)
def f_X8_table (v1 : Int32) (v2 : Int32) (v3 : Int32) (v4 : Int32) (I : e_I) (L : e_L) : Option (Int64 × e_I × e_L) :=
  e_b3 (f_X8_toCome 3 v1 v2 v3 v4 I L) (fun (r_1 : Int64) (I_2 : e_I) (L_3 : e_L) =>
  some (r_1, I_2, L_3))
set_option maxRecDepth 100000 in
set_option maxHeartbeats 4000000 in
theorem Zf_X8_table {X : e_X} (hC : e_C X cX8_table RX8 5 (some .long) 12 gN) (v1 : Int32) (v2 : Int32) (v3 : Int32) (v4 : Int32) (I : e_I) (L : e_L) : Zo X (ph_lIL) (f_X8_table v1 v2 v3 v4 I L) 0 [(0, .ref 83), (1, .int v1), (2, .int v2), (3, .int v3), (4, .int v4)] [] I L := by
  unfold f_X8_table
  refine zo_aload_n hC dX8_table_0 rfl 0 rfl ?_
  refine zo_iconst (v := 3) hC (by decide) dX8_table_1 ?_
  refine zo_iload_n hC dX8_table_2 rfl 1 rfl ?_
  refine zo_iload_n hC dX8_table_3 rfl 2 rfl ?_
  refine zo_iload_n hC dX8_table_4 rfl 3 rfl ?_
  refine zo_iload hC dX8_table_5 4 rfl ?_
  refine zo_callV_lIL hC (ci := 8) [.int 3, .int v1, .int v2, .int v3, .int v4] [] me_X8_toCome mlX8_299 im_X8_toCome se_X8_toCome rfl (by decide) at_83 (fun p hp => T_X8_toCome 3 v1 v2 v3 v4 I L p hp) (by decide) rfl (Nat.le_of_ble_eq_true rfl) dX8_table_7 rfl (fun r_1 I_2 L_3 => ?_)
  exact zo_lret hC rfl dX8_table_10

theorem T_X8_table (v1 : Int32) (v2 : Int32) (v3 : Int32) (v4 : Int32) (I : e_I) (L : e_L) (p : Int64 × e_I × e_L) (hp : f_X8_table v1 v2 v3 v4 I L = some p) : Mt yX8_table cX8_table 5 (some .long) 12 gN [.ref 83, .int v1, .int v2, .int v3, .int v4] I L ((ph_lIL) p) := zo_enter hp (by decide) (Nat.le_of_ble_eq_true rfl) (fun X hC => Zf_X8_table hC v1 v2 v3 v4 I L)
def f_X8_choice (v1 : Int32) (v2 : Int32) (v3 : Int32) (I : e_I) (L : e_L) : Option (Int32 × e_I × e_L) :=
  e_b1 (f_X8_whyNot 1 v1 v2 v3 I) (fun (r_1 : Int32) =>
  e_b2 (f_X8_isRefused r_1 I) (fun (r_2 : Int32) (I_3 : e_I) =>
  if r_2 = 0 then (
    e_b2 (f_X8_laysNow 2 v3 I_3 L) (fun (I_5 : e_I) (L_6 : e_L) =>
    e_as (e_ix (((8 : Int32) * v2) + v1) 24 = true) (
    some ((I_5 91 (((8 : Int32) * v2) + v1).toNatClampNeg), I_5, L_6))))
  else (
    some ((-1), I_3, L))))
set_option maxRecDepth 100000 in
set_option maxHeartbeats 4000000 in
theorem Zf_X8_choice {X : e_X} (hC : e_C X cX8_choice RX8 4 (some .int) 11 gN) (v1 : Int32) (v2 : Int32) (v3 : Int32) (I : e_I) (L : e_L) : Zo X (ph_iIL) (f_X8_choice v1 v2 v3 I L) 0 [(0, .ref 83), (1, .int v1), (2, .int v2), (3, .int v3)] [] I L := by
  unfold f_X8_choice
  refine zo_aload_n hC dX8_choice_0 rfl 0 rfl ?_
  refine zo_aload_n hC dX8_choice_1 rfl 0 rfl ?_
  refine zo_iconst (v := 1) hC (by decide) dX8_choice_2 ?_
  refine zo_iload_n hC dX8_choice_3 rfl 1 rfl ?_
  refine zo_iload_n hC dX8_choice_4 rfl 2 rfl ?_
  refine zo_iload_n hC dX8_choice_5 rfl 3 rfl ?_
  refine zo_callV_i hC (ci := 8) [.int 1, .int v1, .int v2, .int v3] [.ref 83] me_X8_whyNot mlX8_286 im_X8_whyNot se_X8_whyNot rfl (by decide) at_83 (fun p hp => T_X8_whyNot 1 v1 v2 v3 I L p hp) (by decide) rfl (Nat.le_of_ble_eq_true rfl) dX8_choice_6 rfl (fun r_1 => ?_)
  refine zo_callV_iI hC (ci := 8) [.int r_1] [] me_X8_isRefused mlX8_162 im_X8_isRefused se_X8_isRefused rfl (by decide) at_83 (fun p hp => T_X8_isRefused r_1 I L p hp) (by decide) rfl (Nat.le_of_ble_eq_true rfl) dX8_choice_9 rfl (fun r_2 I_3 => ?_)
  refine zo_if_eq (tgt := 17) hC dX8_choice_12 (by decide) (fun c_4 => ?_) (fun c_4 => ?_)
  · refine zo_aload_n hC dX8_choice_17 rfl 0 rfl ?_
    refine zo_iconst (v := 2) hC (by decide) dX8_choice_18 ?_
    refine zo_iload_n hC dX8_choice_19 rfl 3 rfl ?_
    refine zo_callV_vIL hC (ci := 8) [.int 2, .int v3] [] me_X8_laysNow mlX8_292 im_X8_laysNow se_X8_laysNow rfl (by decide) at_83 (fun p hp => T_X8_laysNow 2 v3 I_3 L p hp) (by decide) rfl (Nat.le_of_ble_eq_true rfl) dX8_choice_20 rfl (fun I_5 L_6 => ?_)
    refine zo_aload_n hC dX8_choice_23 rfl 0 rfl ?_
    refine zo_getR hC (r := 91) fk8_36 (by decide) gr_83_24 at_83 dX8_choice_24 ?_
    refine zo_bipush (v := 8) hC (by decide) dX8_choice_27 ?_
    refine zo_iload_n hC dX8_choice_29 rfl 2 rfl ?_
    refine zo_imul hC dX8_choice_30 ?_
    refine zo_iload_n hC dX8_choice_31 rfl 1 rfl ?_
    refine zo_iadd hC dX8_choice_32 ?_
    refine zo_as (fun h_7 => ?_)
    refine zo_iald hC ar_91 (e_ix_vp h_7) dX8_choice_33 ?_
    exact zo_iret hC rfl dX8_choice_34
  · refine zo_iconst (v := (-1)) hC (by decide) dX8_choice_15 ?_
    exact zo_iret hC rfl dX8_choice_16

theorem T_X8_choice (v1 : Int32) (v2 : Int32) (v3 : Int32) (I : e_I) (L : e_L) (p : Int32 × e_I × e_L) (hp : f_X8_choice v1 v2 v3 I L = some p) : Mt yX8_choice cX8_choice 4 (some .int) 11 gN [.ref 83, .int v1, .int v2, .int v3] I L ((ph_iIL) p) := zo_enter hp (by decide) (Nat.le_of_ble_eq_true rfl) (fun X hC => Zf_X8_choice hC v1 v2 v3 I L)
def f_X8_chosen_60 (v1 : Int32) (v2 : Int32) (v3 : Int32) (v4 : Int32) (v5 : Int32) (s0 : Int32) (I : e_I) (L : e_L) : Option (Int64 × e_I × e_L) :=
  e_b2 (f_X8_isRefused s0 I) (fun (r_1 : Int32) (I_2 : e_I) =>
  if r_1 = 0 then (
    e_b2 (f_X8_laysNow 2 v3 I_2 L) (fun (I_4 : e_I) (L_5 : e_L) =>
    e_let (e_ul L_5 83 26 ((L_5 83 26) / 400)) (fun (L_6 : e_L) =>
    e_b2 (f_X8_by v4 v1 v2 I_4 L_6) (fun (r_7 : Int64) (I_8 : e_I) =>
    e_b1 (f_X8_part r_7 ((400 : Int64) * (L_6 83 26)) v5) (fun (r_9 : Int64) =>
    some (r_9, I_8, L_6))))))
  else (
    some ((-1), I_2, L)))
set_option maxRecDepth 100000 in
set_option maxHeartbeats 4000000 in
theorem Zf_X8_chosen_60 {X : e_X} (hC : e_C X cX8_chosen RX8 7 (some .long) 11 gN) (v1 : Int32) (v2 : Int32) (v3 : Int32) (v4 : Int32) (v5 : Int32) (s0 : Int32) (I : e_I) (L : e_L) : Zo X (ph_lIL) (f_X8_chosen_60 v1 v2 v3 v4 v5 s0 I L) 60 [(0, .ref 83), (1, .int v1), (2, .int v2), (3, .int v3), (4, .int v4), (5, .int v5)] [.int s0, .ref 83] I L := by
  unfold f_X8_chosen_60
  refine zo_callV_iI hC (ci := 8) [.int s0] [] me_X8_isRefused mlX8_162 im_X8_isRefused se_X8_isRefused rfl (by decide) at_83 (fun p hp => T_X8_isRefused s0 I L p hp) (by decide) rfl (Nat.le_of_ble_eq_true rfl) dX8_chosen_60 rfl (fun r_1 I_2 => ?_)
  refine zo_if_eq (tgt := 70) hC dX8_chosen_63 (by decide) (fun c_3 => ?_) (fun c_3 => ?_)
  · refine zo_aload_n hC dX8_chosen_70 rfl 0 rfl ?_
    refine zo_iconst (v := 2) hC (by decide) dX8_chosen_71 ?_
    refine zo_iload_n hC dX8_chosen_72 rfl 3 rfl ?_
    refine zo_callV_vIL hC (ci := 8) [.int 2, .int v3] [] me_X8_laysNow mlX8_292 im_X8_laysNow se_X8_laysNow rfl (by decide) at_83 (fun p hp => T_X8_laysNow 2 v3 I_2 L p hp) (by decide) rfl (Nat.le_of_ble_eq_true rfl) dX8_chosen_73 rfl (fun I_4 L_5 => ?_)
    refine zo_aload_n hC dX8_chosen_76 rfl 0 rfl ?_
    refine zo_dup hC rfl dX8_chosen_77 ?_
    refine zo_getL hC fk8_233 at_83 dX8_chosen_78 ?_
    refine zo_ldc2 (v := 400) hC clX8_266 dX8_chosen_81 ?_
    refine zo_ldiv hC (by decide) dX8_chosen_84 ?_
    refine zo_putL hC fk8_233 ff8_26 at_83 dX8_chosen_85 ?_
    refine zo_topL (fun L_6 => ?_)
    refine zo_aload_n hC dX8_chosen_88 rfl 0 rfl ?_
    refine zo_iload hC dX8_chosen_89 4 rfl ?_
    refine zo_iload_n hC dX8_chosen_91 rfl 1 rfl ?_
    refine zo_iload_n hC dX8_chosen_92 rfl 2 rfl ?_
    refine zo_callV_lI hC (ci := 8) [.int v4, .int v1, .int v2] [] me_X8_by mlX8_263 im_X8_by se_X8_by rfl (by decide) at_83 (fun p hp => T_X8_by v4 v1 v2 I_4 L_6 p hp) (by decide) rfl (Nat.le_of_ble_eq_true rfl) dX8_chosen_93 rfl (fun r_7 I_8 => ?_)
    refine zo_ldc2 (v := 400) hC clX8_266 dX8_chosen_96 ?_
    refine zo_aload_n hC dX8_chosen_99 rfl 0 rfl ?_
    refine zo_getL hC fk8_233 at_83 dX8_chosen_100 ?_
    refine zo_lmul hC dX8_chosen_103 ?_
    refine zo_iload hC dX8_chosen_104 5 rfl ?_
    refine zo_callS_l hC [.long r_7, .long ((400 : Int64) * (L_6 83 26)), .int v5] [] me_X8_part mlX8_295 sm_X8_part (fun p hp => T_X8_part r_7 ((400 : Int64) * (L_6 83 26)) v5 I_8 L_6 p hp) (by decide) rfl (Nat.le_of_ble_eq_true rfl) dX8_chosen_106 rfl (fun r_9 => ?_)
    exact zo_lret hC rfl dX8_chosen_109
  · refine zo_ldc2 (v := (-1)) hC clX8_290 dX8_chosen_66 ?_
    exact zo_lret hC rfl dX8_chosen_69

def f_X8_chosen_26 (v1 : Int32) (v2 : Int32) (v3 : Int32) (v4 : Int32) (v5 : Int32) (s0 : Int32) (I : e_I) (L : e_L) : Option (Int64 × e_I × e_L) :=
  e_b1 (f_X8_whyNot s0 v1 v2 v3 I) (fun (r_1 : Int32) =>
  if r_1 = 0 then (
    e_b1 (f_X8_canChoose v4 v1 v2) (fun (r_3 : Int32) =>
    if r_3 = 0 then (
      f_X8_chosen_60 v1 v2 v3 v4 v5 5 I L)
    else (
      f_X8_chosen_60 v1 v2 v3 v4 v5 0 I L)))
  else (
    f_X8_chosen_60 v1 v2 v3 v4 v5 r_1 I L))
set_option maxRecDepth 100000 in
set_option maxHeartbeats 4000000 in
theorem Zf_X8_chosen_26 {X : e_X} (hC : e_C X cX8_chosen RX8 7 (some .long) 11 gN) (v1 : Int32) (v2 : Int32) (v3 : Int32) (v4 : Int32) (v5 : Int32) (s0 : Int32) (I : e_I) (L : e_L) : Zo X (ph_lIL) (f_X8_chosen_26 v1 v2 v3 v4 v5 s0 I L) 26 [(0, .ref 83), (1, .int v1), (2, .int v2), (3, .int v3), (4, .int v4), (5, .int v5)] [.int s0, .ref 83] I L := by
  unfold f_X8_chosen_26
  refine zo_iload_n hC dX8_chosen_26 rfl 1 rfl ?_
  refine zo_iload_n hC dX8_chosen_27 rfl 2 rfl ?_
  refine zo_iload_n hC dX8_chosen_28 rfl 3 rfl ?_
  refine zo_callV_i hC (ci := 8) [.int s0, .int v1, .int v2, .int v3] [] me_X8_whyNot mlX8_286 im_X8_whyNot se_X8_whyNot rfl (by decide) at_83 (fun p hp => T_X8_whyNot s0 v1 v2 v3 I L p hp) (by decide) rfl (Nat.le_of_ble_eq_true rfl) dX8_chosen_29 rfl (fun r_1 => ?_)
  refine zo_istore (lv' := [(6, .int r_1), (0, .ref 83), (1, .int v1), (2, .int v2), (3, .int v3), (4, .int v4), (5, .int v5)]) hC dX8_chosen_32 (by decide) rfl ?_
  refine zo_aload_n hC dX8_chosen_34 rfl 1 rfl ?_
  refine zo_iload hC dX8_chosen_35 0 rfl ?_
  refine zo_if_eq (tgt := 45) hC dX8_chosen_37 (by decide) (fun c_2 => ?_) (fun c_2 => ?_)
  · refine zo_iload hC dX8_chosen_45 5 rfl ?_
    refine zo_iload_n hC dX8_chosen_47 rfl 2 rfl ?_
    refine zo_iload_n hC dX8_chosen_48 rfl 3 rfl ?_
    refine zo_callS_i hC [.int v4, .int v1, .int v2] [.ref 83] me_X8_canChoose mlX8_260 sm_X8_canChoose (fun p hp => T_X8_canChoose v4 v1 v2 I L p hp) (by decide) rfl (Nat.le_of_ble_eq_true rfl) dX8_chosen_49 rfl (fun r_3 => ?_)
    refine zo_if_eq (tgt := 59) hC dX8_chosen_52 (by decide) (fun c_4 => ?_) (fun c_4 => ?_)
    · refine zo_iconst (v := 5) hC (by decide) dX8_chosen_59 ?_
      refine zo_sub [1, 2, 3, 4, 5, 6] (lv' := [(0, .ref 83), (1, .int v1), (2, .int v2), (3, .int v3), (4, .int v4), (5, .int v5)]) rfl ?_
      exact Zf_X8_chosen_60 hC v1 v2 v3 v4 v5 5 I L
    · refine zo_iconst (v := 0) hC (by decide) dX8_chosen_55 ?_
      refine zo_goto (tgt := 60) hC dX8_chosen_56 (by decide) ?_
      refine zo_sub [1, 2, 3, 4, 5, 6] (lv' := [(0, .ref 83), (1, .int v1), (2, .int v2), (3, .int v3), (4, .int v4), (5, .int v5)]) rfl ?_
      exact Zf_X8_chosen_60 hC v1 v2 v3 v4 v5 0 I L
  · refine zo_iload hC dX8_chosen_40 0 rfl ?_
    refine zo_goto (tgt := 60) hC dX8_chosen_42 (by decide) ?_
    refine zo_sub [1, 2, 3, 4, 5, 6] (lv' := [(0, .ref 83), (1, .int v1), (2, .int v2), (3, .int v3), (4, .int v4), (5, .int v5)]) rfl ?_
    exact Zf_X8_chosen_60 hC v1 v2 v3 v4 v5 r_1 I L

def f_X8_chosen_25 (v1 : Int32) (v2 : Int32) (v3 : Int32) (v4 : Int32) (v5 : Int32) (I : e_I) (L : e_L) : Option (Int64 × e_I × e_L) :=
  f_X8_chosen_26 v1 v2 v3 v4 v5 0 I L
set_option maxRecDepth 100000 in
set_option maxHeartbeats 4000000 in
theorem Zf_X8_chosen_25 {X : e_X} (hC : e_C X cX8_chosen RX8 7 (some .long) 11 gN) (v1 : Int32) (v2 : Int32) (v3 : Int32) (v4 : Int32) (v5 : Int32) (I : e_I) (L : e_L) : Zo X (ph_lIL) (f_X8_chosen_25 v1 v2 v3 v4 v5 I L) 25 [(0, .ref 83), (1, .int v1), (2, .int v2), (3, .int v3), (4, .int v4), (5, .int v5)] [.ref 83] I L := by
  unfold f_X8_chosen_25
  refine zo_iconst (v := 0) hC (by decide) dX8_chosen_25 ?_
  exact Zf_X8_chosen_26 hC v1 v2 v3 v4 v5 0 I L

def f_X8_chosen (v1 : Int32) (v2 : Int32) (v3 : Int32) (v4 : Int32) (v5 : Int32) (I : e_I) (L : e_L) : Option (Int64 × e_I × e_L) :=
  e_b1 (f_X8_in v4 0 2) (fun (r_1 : Int32) =>
  if r_1 = 0 then (
    f_X8_chosen_25 v1 v2 v3 v4 v5 I L)
  else (
    e_b1 (f_X8_in v5 0 1) (fun (r_3 : Int32) =>
    if r_3 = 0 then (
      f_X8_chosen_25 v1 v2 v3 v4 v5 I L)
    else (
      f_X8_chosen_26 v1 v2 v3 v4 v5 1 I L))))
set_option maxRecDepth 100000 in
set_option maxHeartbeats 4000000 in
theorem Zf_X8_chosen {X : e_X} (hC : e_C X cX8_chosen RX8 7 (some .long) 11 gN) (v1 : Int32) (v2 : Int32) (v3 : Int32) (v4 : Int32) (v5 : Int32) (I : e_I) (L : e_L) : Zo X (ph_lIL) (f_X8_chosen v1 v2 v3 v4 v5 I L) 0 [(0, .ref 83), (1, .int v1), (2, .int v2), (3, .int v3), (4, .int v4), (5, .int v5)] [] I L := by
  unfold f_X8_chosen
  refine zo_aload_n hC dX8_chosen_0 rfl 0 rfl ?_
  refine zo_iload hC dX8_chosen_1 4 rfl ?_
  refine zo_iconst (v := 0) hC (by decide) dX8_chosen_3 ?_
  refine zo_iconst (v := 2) hC (by decide) dX8_chosen_4 ?_
  refine zo_callS_i hC [.int v4, .int 0, .int 2] [.ref 83] me_X8_in mlX8_83 sm_X8_in (fun p hp => T_X8_in v4 0 2 I L p hp) (by decide) rfl (Nat.le_of_ble_eq_true rfl) dX8_chosen_5 rfl (fun r_1 => ?_)
  refine zo_if_eq (tgt := 25) hC dX8_chosen_8 (by decide) (fun c_2 => ?_) (fun c_2 => ?_)
  · exact Zf_X8_chosen_25 hC v1 v2 v3 v4 v5 I L
  · refine zo_iload hC dX8_chosen_11 5 rfl ?_
    refine zo_iconst (v := 0) hC (by decide) dX8_chosen_13 ?_
    refine zo_iconst (v := 1) hC (by decide) dX8_chosen_14 ?_
    refine zo_callS_i hC [.int v5, .int 0, .int 1] [.ref 83] me_X8_in mlX8_83 sm_X8_in (fun p hp => T_X8_in v5 0 1 I L p hp) (by decide) rfl (Nat.le_of_ble_eq_true rfl) dX8_chosen_15 rfl (fun r_3 => ?_)
    refine zo_if_eq (tgt := 25) hC dX8_chosen_18 (by decide) (fun c_4 => ?_) (fun c_4 => ?_)
    · exact Zf_X8_chosen_25 hC v1 v2 v3 v4 v5 I L
    · refine zo_iconst (v := 1) hC (by decide) dX8_chosen_21 ?_
      refine zo_goto (tgt := 26) hC dX8_chosen_22 (by decide) ?_
      exact Zf_X8_chosen_26 hC v1 v2 v3 v4 v5 1 I L

theorem T_X8_chosen (v1 : Int32) (v2 : Int32) (v3 : Int32) (v4 : Int32) (v5 : Int32) (I : e_I) (L : e_L) (p : Int64 × e_I × e_L) (hp : f_X8_chosen v1 v2 v3 v4 v5 I L = some p) : Mt yX8_chosen cX8_chosen 7 (some .long) 11 gN [.ref 83, .int v1, .int v2, .int v3, .int v4, .int v5] I L ((ph_lIL) p) := zo_enter hp (by decide) (Nat.le_of_ble_eq_true rfl) (fun X hC => Zf_X8_chosen hC v1 v2 v3 v4 v5 I L)
def f_X8_breaksEven_46 (v1 : Int32) (v2 : Int32) (v3 : Int32) (k113 : e_I → e_L → Option (Int32 × e_I × e_L)) (k104 : Int32 → e_I → e_L → Option (Int32 × e_I × e_L)) : Nat → Int32 → e_I → e_L → Option (Int32 × e_I × e_L)
  | 0, _, _, _ => none
  | n + 1, v5, I, L =>
    if v5 > 20 then (
      k113 I L)
    else (
      e_let (e_ui I 83 27 v5) (fun (I_2 : e_I) =>
      e_b1 (f_X8_placeOf (I_2 85 (72 : Int32).toNatClampNeg) I_2) (fun (r_3 : Int32) =>
      e_b2 (f_X8_laysOut 85 2 v3 60 r_3 (I_2 85 (73 : Int32).toNatClampNeg) I_2 L) (fun (I_4 : e_I) (L_5 : e_L) =>
      e_as (e_ix (((8 : Int32) * v2) + v1) 24 = true) (
      if (I_4 91 (((8 : Int32) * v2) + v1).toNatClampNeg) ≠ 2 then (
        e_let (v5 + 1) (fun (x_8 : Int32) =>
        f_X8_breaksEven_46 v1 v2 v3 k113 k104 n x_8 I_4 L_5))
      else (
        k104 v5 I_4 L_5))))))
set_option maxRecDepth 100000 in
set_option maxHeartbeats 4000000 in
theorem Zf_X8_breaksEven_46 {X : e_X} (hC : e_C X cX8_breaksEven RX8 6 (some .int) 10 gN) (v1 : Int32) (v2 : Int32) (v3 : Int32) (k113 : e_I → e_L → Option (Int32 × e_I × e_L)) (k104 : Int32 → e_I → e_L → Option (Int32 × e_I × e_L)) (hk113 : ∀ (I : e_I) (L : e_L), Zo X (ph_iIL) (k113 I L) 113 [] [] I L) (hk104 : ∀ (v5 : Int32) (I : e_I) (L : e_L), Zo X (ph_iIL) (k104 v5 I L) 104 [(5, .int v5)] [] I L) : ∀ (n : Nat) (v5 : Int32) (I : e_I) (L : e_L), Zo X (ph_iIL) (f_X8_breaksEven_46 v1 v2 v3 k113 k104 n v5 I L) 46 [(0, .ref 83), (1, .int v1), (2, .int v2), (3, .int v3), (5, .int v5)] [] I L := by
  intro n
  induction n with
  | zero => intro v5 I L p hp; cases hp
  | succ n ih =>
    intro v5 I L
    unfold f_X8_breaksEven_46
    refine zo_iload hC dX8_breaksEven_46 4 rfl ?_
    refine zo_bipush (v := 20) hC (by decide) dX8_breaksEven_48 ?_
    refine zo_icmp_gt (tgt := 113) hC dX8_breaksEven_50 (by decide) (fun c_1 => ?_) (fun c_1 => ?_)
    · refine zo_sub [] (lv' := []) rfl ?_
      exact hk113 I L
    · refine zo_aload_n hC dX8_breaksEven_53 rfl 0 rfl ?_
      refine zo_iload hC dX8_breaksEven_54 4 rfl ?_
      refine zo_putI hC fk8_254 ff8_27 at_83 dX8_breaksEven_56 ?_
      refine zo_topI (fun I_2 => ?_)
      refine zo_aload_n hC dX8_breaksEven_59 rfl 0 rfl ?_
      refine zo_iconst (v := 2) hC (by decide) dX8_breaksEven_60 ?_
      refine zo_iload_n hC dX8_breaksEven_61 rfl 3 rfl ?_
      refine zo_aload_n hC dX8_breaksEven_62 rfl 0 rfl ?_
      refine zo_getR hC (r := 85) fk8_17 (by decide) gr_83_7 at_83 dX8_breaksEven_63 ?_
      refine zo_bipush (v := 60) hC (by decide) dX8_breaksEven_66 ?_
      refine zo_aload_n hC dX8_breaksEven_68 rfl 0 rfl ?_
      refine zo_aload_n hC dX8_breaksEven_69 rfl 0 rfl ?_
      refine zo_getR hC (r := 85) fk8_17 (by decide) gr_83_7 at_83 dX8_breaksEven_70 ?_
      refine zo_bipush (v := 72) hC (by decide) dX8_breaksEven_73 ?_
      refine zo_iald hC ar_85 (e_ix_vp (by decide)) dX8_breaksEven_75 ?_
      refine zo_callV_i hC (ci := 8) [.int (I_2 85 (72 : Int32).toNatClampNeg)] [.int 60, .ref 85, .int v3, .int 2, .ref 83] me_X8_placeOf mlX8_195 im_X8_placeOf se_X8_placeOf rfl (by decide) at_83 (fun p hp => T_X8_placeOf (I_2 85 (72 : Int32).toNatClampNeg) I_2 L p hp) (by decide) rfl (Nat.le_of_ble_eq_true rfl) dX8_breaksEven_76 rfl (fun r_3 => ?_)
      refine zo_aload_n hC dX8_breaksEven_79 rfl 0 rfl ?_
      refine zo_getR hC (r := 85) fk8_17 (by decide) gr_83_7 at_83 dX8_breaksEven_80 ?_
      refine zo_bipush (v := 73) hC (by decide) dX8_breaksEven_83 ?_
      refine zo_iald hC ar_85 (e_ix_vp (by decide)) dX8_breaksEven_85 ?_
      refine zo_callV_vIL hC (ci := 8) [.int 2, .int v3, .ref 85, .int 60, .int r_3, .int (I_2 85 (73 : Int32).toNatClampNeg)] [] me_X8_laysOut mlX8_278 im_X8_laysOut se_X8_laysOut rfl (by decide) at_83 (fun p hp => T_X8_laysOut 85 ir_85 2 v3 60 r_3 (I_2 85 (73 : Int32).toNatClampNeg) I_2 L p hp) (by decide) rfl (Nat.le_of_ble_eq_true rfl) dX8_breaksEven_86 rfl (fun I_4 L_5 => ?_)
      refine zo_aload_n hC dX8_breaksEven_89 rfl 0 rfl ?_
      refine zo_getR hC (r := 91) fk8_36 (by decide) gr_83_24 at_83 dX8_breaksEven_90 ?_
      refine zo_bipush (v := 8) hC (by decide) dX8_breaksEven_93 ?_
      refine zo_iload_n hC dX8_breaksEven_95 rfl 2 rfl ?_
      refine zo_imul hC dX8_breaksEven_96 ?_
      refine zo_iload_n hC dX8_breaksEven_97 rfl 1 rfl ?_
      refine zo_iadd hC dX8_breaksEven_98 ?_
      refine zo_as (fun h_6 => ?_)
      refine zo_iald hC ar_91 (e_ix_vp h_6) dX8_breaksEven_99 ?_
      refine zo_iconst (v := 2) hC (by decide) dX8_breaksEven_100 ?_
      refine zo_icmp_ne (tgt := 107) hC dX8_breaksEven_101 (by decide) (fun c_7 => ?_) (fun c_7 => ?_)
      · refine zo_iinc hC (x := v5) (fun x_8 => [(5, .int x_8), (0, .ref 83), (1, .int v1), (2, .int v2), (3, .int v3)]) dX8_breaksEven_107 4 rfl (by rfl) (by decide) (fun _ => rfl) (fun x_8 => ?_)
        refine zo_goto (tgt := 46) hC dX8_breaksEven_110 (by decide) ?_
        refine zo_sub [1, 2, 3, 4, 0] (lv' := [(0, .ref 83), (1, .int v1), (2, .int v2), (3, .int v3), (5, .int x_8)]) rfl ?_
        exact ih x_8 I_4 L_5
      · refine zo_sub [4] (lv' := [(5, .int v5)]) rfl ?_
        exact hk104 v5 I_4 L_5

def f_X8_breaksEven_35 (v1 : Int32) (v2 : Int32) (v3 : Int32) (s0 : Int32) (I : e_I) (L : e_L) : Option (Int32 × e_I × e_L) :=
  e_b2 (f_X8_isRefused s0 I) (fun (r_1 : Int32) (I_2 : e_I) =>
  if r_1 = 0 then (
    f_X8_breaksEven_46 v1 v2 v3 (fun (I_4 : e_I) (L_5 : e_L) =>
      some ((-2), I_4, L_5)) (fun (v5_6 : Int32) (I_7 : e_I) (L_8 : e_L) =>
      some (v5_6, I_7, L_8)) e_FU 0 I_2 L)
  else (
    some ((-1), I_2, L)))
set_option maxRecDepth 100000 in
set_option maxHeartbeats 4000000 in
theorem Zf_X8_breaksEven_35 {X : e_X} (hC : e_C X cX8_breaksEven RX8 6 (some .int) 10 gN) (v1 : Int32) (v2 : Int32) (v3 : Int32) (s0 : Int32) (I : e_I) (L : e_L) : Zo X (ph_iIL) (f_X8_breaksEven_35 v1 v2 v3 s0 I L) 35 [(0, .ref 83), (1, .int v1), (2, .int v2), (3, .int v3)] [.int s0, .ref 83] I L := by
  unfold f_X8_breaksEven_35
  refine zo_callV_iI hC (ci := 8) [.int s0] [] me_X8_isRefused mlX8_162 im_X8_isRefused se_X8_isRefused rfl (by decide) at_83 (fun p hp => T_X8_isRefused s0 I L p hp) (by decide) rfl (Nat.le_of_ble_eq_true rfl) dX8_breaksEven_35 rfl (fun r_1 I_2 => ?_)
  refine zo_if_eq (tgt := 43) hC dX8_breaksEven_38 (by decide) (fun c_3 => ?_) (fun c_3 => ?_)
  · refine zo_iconst (v := 0) hC (by decide) dX8_breaksEven_43 ?_
    refine zo_istore (lv' := [(5, .int 0), (0, .ref 83), (1, .int v1), (2, .int v2), (3, .int v3)]) hC dX8_breaksEven_44 (by decide) rfl ?_
    refine zo_sub [1, 2, 3, 4, 0] (lv' := [(0, .ref 83), (1, .int v1), (2, .int v2), (3, .int v3), (5, .int 0)]) rfl ?_
    refine Zf_X8_breaksEven_46 hC v1 v2 v3 _ _ (fun I_4 L_5 => ?_) (fun v5_6 I_7 L_8 => ?_) e_FU 0 I_2 L
    · refine zo_bipush (v := (-2)) hC (by decide) dX8_breaksEven_113 ?_
      exact zo_iret hC rfl dX8_breaksEven_115
    · refine zo_iload hC dX8_breaksEven_104 0 rfl ?_
      exact zo_iret hC rfl dX8_breaksEven_106
  · refine zo_iconst (v := (-1)) hC (by decide) dX8_breaksEven_41 ?_
    exact zo_iret hC rfl dX8_breaksEven_42

def f_X8_breaksEven (v1 : Int32) (v2 : Int32) (v3 : Int32) (I : e_I) (L : e_L) : Option (Int32 × e_I × e_L) :=
  e_b1 (f_X8_whyNot 1 v1 v2 v3 I) (fun (r_1 : Int32) =>
  if r_1 = 0 then (
    e_b1 (f_X8_canChoose 2 v1 v2) (fun (r_3 : Int32) =>
    if r_3 = 0 then (
      f_X8_breaksEven_35 v1 v2 v3 5 I L)
    else (
      f_X8_breaksEven_35 v1 v2 v3 0 I L)))
  else (
    f_X8_breaksEven_35 v1 v2 v3 r_1 I L))
set_option maxRecDepth 100000 in
set_option maxHeartbeats 4000000 in
theorem Zf_X8_breaksEven {X : e_X} (hC : e_C X cX8_breaksEven RX8 6 (some .int) 10 gN) (v1 : Int32) (v2 : Int32) (v3 : Int32) (I : e_I) (L : e_L) : Zo X (ph_iIL) (f_X8_breaksEven v1 v2 v3 I L) 0 [(0, .ref 83), (1, .int v1), (2, .int v2), (3, .int v3)] [] I L := by
  unfold f_X8_breaksEven
  refine zo_aload_n hC dX8_breaksEven_0 rfl 0 rfl ?_
  refine zo_iconst (v := 1) hC (by decide) dX8_breaksEven_1 ?_
  refine zo_iload_n hC dX8_breaksEven_2 rfl 1 rfl ?_
  refine zo_iload_n hC dX8_breaksEven_3 rfl 2 rfl ?_
  refine zo_iload_n hC dX8_breaksEven_4 rfl 3 rfl ?_
  refine zo_callV_i hC (ci := 8) [.int 1, .int v1, .int v2, .int v3] [] me_X8_whyNot mlX8_286 im_X8_whyNot se_X8_whyNot rfl (by decide) at_83 (fun p hp => T_X8_whyNot 1 v1 v2 v3 I L p hp) (by decide) rfl (Nat.le_of_ble_eq_true rfl) dX8_breaksEven_5 rfl (fun r_1 => ?_)
  refine zo_istore (lv' := [(4, .int r_1), (0, .ref 83), (1, .int v1), (2, .int v2), (3, .int v3)]) hC dX8_breaksEven_8 (by decide) rfl ?_
  refine zo_aload_n hC dX8_breaksEven_10 rfl 1 rfl ?_
  refine zo_iload hC dX8_breaksEven_11 0 rfl ?_
  refine zo_if_eq (tgt := 21) hC dX8_breaksEven_13 (by decide) (fun c_2 => ?_) (fun c_2 => ?_)
  · refine zo_iconst (v := 2) hC (by decide) dX8_breaksEven_21 ?_
    refine zo_iload_n hC dX8_breaksEven_22 rfl 2 rfl ?_
    refine zo_iload_n hC dX8_breaksEven_23 rfl 3 rfl ?_
    refine zo_callS_i hC [.int 2, .int v1, .int v2] [.ref 83] me_X8_canChoose mlX8_260 sm_X8_canChoose (fun p hp => T_X8_canChoose 2 v1 v2 I L p hp) (by decide) rfl (Nat.le_of_ble_eq_true rfl) dX8_breaksEven_24 rfl (fun r_3 => ?_)
    refine zo_if_eq (tgt := 34) hC dX8_breaksEven_27 (by decide) (fun c_4 => ?_) (fun c_4 => ?_)
    · refine zo_iconst (v := 5) hC (by decide) dX8_breaksEven_34 ?_
      refine zo_sub [1, 2, 3, 4] (lv' := [(0, .ref 83), (1, .int v1), (2, .int v2), (3, .int v3)]) rfl ?_
      exact Zf_X8_breaksEven_35 hC v1 v2 v3 5 I L
    · refine zo_iconst (v := 0) hC (by decide) dX8_breaksEven_30 ?_
      refine zo_goto (tgt := 35) hC dX8_breaksEven_31 (by decide) ?_
      refine zo_sub [1, 2, 3, 4] (lv' := [(0, .ref 83), (1, .int v1), (2, .int v2), (3, .int v3)]) rfl ?_
      exact Zf_X8_breaksEven_35 hC v1 v2 v3 0 I L
  · refine zo_iload hC dX8_breaksEven_16 0 rfl ?_
    refine zo_goto (tgt := 35) hC dX8_breaksEven_18 (by decide) ?_
    refine zo_sub [1, 2, 3, 4] (lv' := [(0, .ref 83), (1, .int v1), (2, .int v2), (3, .int v3)]) rfl ?_
    exact Zf_X8_breaksEven_35 hC v1 v2 v3 r_1 I L

theorem T_X8_breaksEven (v1 : Int32) (v2 : Int32) (v3 : Int32) (I : e_I) (L : e_L) (p : Int32 × e_I × e_L) (hp : f_X8_breaksEven v1 v2 v3 I L = some p) : Mt yX8_breaksEven cX8_breaksEven 6 (some .int) 10 gN [.ref 83, .int v1, .int v2, .int v3] I L ((ph_iIL) p) := zo_enter hp (by decide) (Nat.le_of_ble_eq_true rfl) (fun X hC => Zf_X8_breaksEven hC v1 v2 v3 I L)
def f_X8_worthOf (a1 : Nat) (v2 : Int32) (v3 : Int32) (I : e_I) (L : e_L) : Option (Int64 × e_I × e_L) :=
  e_b2 (f_X8_laysOut a1 0 v3 v2 0 0 I L) (fun (I_1 : e_I) (L_2 : e_L) =>
  some ((L_2 89 (0 : Int32).toNatClampNeg), I_1, L_2))
set_option maxRecDepth 100000 in
set_option maxHeartbeats 4000000 in
theorem Zf_X8_worthOf {X : e_X} (hC : e_C X cX8_worthOf RX8 4 (some .long) 10 gN) (a1 : Nat) (ha1 : e_ir a1) (v2 : Int32) (v3 : Int32) (I : e_I) (L : e_L) : Zo X (ph_lIL) (f_X8_worthOf a1 v2 v3 I L) 0 [(0, .ref 83), (1, .ref a1), (2, .int v2), (3, .int v3)] [] I L := by
  unfold f_X8_worthOf
  refine zo_aload_n hC dX8_worthOf_0 rfl 0 rfl ?_
  refine zo_iconst (v := 0) hC (by decide) dX8_worthOf_1 ?_
  refine zo_iload_n hC dX8_worthOf_2 rfl 3 rfl ?_
  refine zo_aload_n hC dX8_worthOf_3 rfl 1 rfl ?_
  refine zo_iload_n hC dX8_worthOf_4 rfl 2 rfl ?_
  refine zo_iconst (v := 0) hC (by decide) dX8_worthOf_5 ?_
  refine zo_iconst (v := 0) hC (by decide) dX8_worthOf_6 ?_
  refine zo_callV_vIL hC (ci := 8) [.int 0, .int v3, .ref a1, .int v2, .int 0, .int 0] [] me_X8_laysOut mlX8_278 im_X8_laysOut se_X8_laysOut rfl (by decide) at_83 (fun p hp => T_X8_laysOut a1 ha1 0 v3 v2 0 0 I L p hp) (by decide) rfl (Nat.le_of_ble_eq_true rfl) dX8_worthOf_7 rfl (fun I_1 L_2 => ?_)
  refine zo_aload_n hC dX8_worthOf_10 rfl 0 rfl ?_
  refine zo_getR hC (r := 89) fk8_29 (by decide) gr_83_22 at_83 dX8_worthOf_11 ?_
  refine zo_iconst (v := 0) hC (by decide) dX8_worthOf_14 ?_
  refine zo_lald hC ar_89 (e_ix_vp (by decide)) dX8_worthOf_15 ?_
  exact zo_lret hC rfl dX8_worthOf_16

theorem T_X8_worthOf (a1 : Nat) (ha1 : e_ir a1) (v2 : Int32) (v3 : Int32) (I : e_I) (L : e_L) (p : Int64 × e_I × e_L) (hp : f_X8_worthOf a1 v2 v3 I L = some p) : Mt yX8_worthOf cX8_worthOf 4 (some .long) 10 gN [.ref 83, .ref a1, .int v2, .int v3] I L ((ph_lIL) p) := zo_enter hp (by decide) (Nat.le_of_ble_eq_true rfl) (fun X hC => Zf_X8_worthOf hC a1 ha1 v2 v3 I L)
def f_X8_worth_22 (v1 : Int32) (v2 : Int32) (s0 : Int32) (I : e_I) (L : e_L) : Option (Int64 × e_I × e_L) :=
  e_b1 (f_X8_in v1 1 5) (fun (r_1 : Int32) =>
  e_b1 (f_X8_unless_ s0 r_1) (fun (r_2 : Int32) =>
  e_b2 (f_X8_isRefused r_2 I) (fun (r_3 : Int32) (I_4 : e_I) =>
  if r_3 = 0 then (
    e_b3 (f_X8_worthOf 85 60 v1 I_4 L) (fun (r_6 : Int64) (I_7 : e_I) (L_8 : e_L) =>
    e_b1 (f_X8_part r_6 (L_8 83 26) v2) (fun (r_9 : Int64) =>
    some (r_9, I_7, L_8))))
  else (
    some ((-1), I_4, L)))))
set_option maxRecDepth 100000 in
set_option maxHeartbeats 4000000 in
theorem Zf_X8_worth_22 {X : e_X} (hC : e_C X cX8_worth RX8 5 (some .long) 11 gN) (v1 : Int32) (v2 : Int32) (s0 : Int32) (I : e_I) (L : e_L) : Zo X (ph_lIL) (f_X8_worth_22 v1 v2 s0 I L) 22 [(0, .ref 83), (1, .int v1), (2, .int v2)] [.int s0, .ref 83] I L := by
  unfold f_X8_worth_22
  refine zo_iload_n hC dX8_worth_22 rfl 1 rfl ?_
  refine zo_iconst (v := 1) hC (by decide) dX8_worth_23 ?_
  refine zo_iconst (v := 5) hC (by decide) dX8_worth_24 ?_
  refine zo_callS_i hC [.int v1, .int 1, .int 5] [.int s0, .ref 83] me_X8_in mlX8_83 sm_X8_in (fun p hp => T_X8_in v1 1 5 I L p hp) (by decide) rfl (Nat.le_of_ble_eq_true rfl) dX8_worth_25 rfl (fun r_1 => ?_)
  refine zo_callS_i hC [.int s0, .int r_1] [.ref 83] me_X8_unless_ mlX8_158 sm_X8_unless_ (fun p hp => T_X8_unless_ s0 r_1 I L p hp) (by decide) rfl (Nat.le_of_ble_eq_true rfl) dX8_worth_28 rfl (fun r_2 => ?_)
  refine zo_callV_iI hC (ci := 8) [.int r_2] [] me_X8_isRefused mlX8_162 im_X8_isRefused se_X8_isRefused rfl (by decide) at_83 (fun p hp => T_X8_isRefused r_2 I L p hp) (by decide) rfl (Nat.le_of_ble_eq_true rfl) dX8_worth_31 rfl (fun r_3 I_4 => ?_)
  refine zo_if_eq (tgt := 41) hC dX8_worth_34 (by decide) (fun c_5 => ?_) (fun c_5 => ?_)
  · refine zo_aload_n hC dX8_worth_41 rfl 0 rfl ?_
    refine zo_aload_n hC dX8_worth_42 rfl 0 rfl ?_
    refine zo_getR hC (r := 85) fk8_17 (by decide) gr_83_7 at_83 dX8_worth_43 ?_
    refine zo_bipush (v := 60) hC (by decide) dX8_worth_46 ?_
    refine zo_iload_n hC dX8_worth_48 rfl 1 rfl ?_
    refine zo_callV_lIL hC (ci := 8) [.ref 85, .int 60, .int v1] [] me_X8_worthOf mlX8_303 im_X8_worthOf se_X8_worthOf rfl (by decide) at_83 (fun p hp => T_X8_worthOf 85 ir_85 60 v1 I_4 L p hp) (by decide) rfl (Nat.le_of_ble_eq_true rfl) dX8_worth_49 rfl (fun r_6 I_7 L_8 => ?_)
    refine zo_lstore_n (lv' := [(3, .long r_6), (0, .ref 83), (1, .int v1), (2, .int v2)]) hC dX8_worth_52 rfl (by decide) rfl ?_
    refine zo_lload_n hC dX8_worth_53 rfl 0 rfl ?_
    refine zo_aload_n hC dX8_worth_54 rfl 1 rfl ?_
    refine zo_getL hC fk8_233 at_83 dX8_worth_55 ?_
    refine zo_iload_n hC dX8_worth_58 rfl 3 rfl ?_
    refine zo_callS_l hC [.long r_6, .long (L_8 83 26), .int v2] [] me_X8_part mlX8_295 sm_X8_part (fun p hp => T_X8_part r_6 (L_8 83 26) v2 I_7 L_8 p hp) (by decide) rfl (Nat.le_of_ble_eq_true rfl) dX8_worth_59 rfl (fun r_9 => ?_)
    exact zo_lret hC rfl dX8_worth_62
  · refine zo_ldc2 (v := (-1)) hC clX8_290 dX8_worth_37 ?_
    exact zo_lret hC rfl dX8_worth_40

def f_X8_worth_21 (v1 : Int32) (v2 : Int32) (I : e_I) (L : e_L) : Option (Int64 × e_I × e_L) :=
  f_X8_worth_22 v1 v2 0 I L
set_option maxRecDepth 100000 in
set_option maxHeartbeats 4000000 in
theorem Zf_X8_worth_21 {X : e_X} (hC : e_C X cX8_worth RX8 5 (some .long) 11 gN) (v1 : Int32) (v2 : Int32) (I : e_I) (L : e_L) : Zo X (ph_lIL) (f_X8_worth_21 v1 v2 I L) 21 [(0, .ref 83), (1, .int v1), (2, .int v2)] [.ref 83] I L := by
  unfold f_X8_worth_21
  refine zo_iconst (v := 0) hC (by decide) dX8_worth_21 ?_
  exact Zf_X8_worth_22 hC v1 v2 0 I L

def f_X8_worth (v1 : Int32) (v2 : Int32) (I : e_I) (L : e_L) : Option (Int64 × e_I × e_L) :=
  if (I 83 6) = 0 then (
    f_X8_worth_21 v1 v2 I L)
  else (
    e_b1 (f_X8_in v2 0 1) (fun (r_2 : Int32) =>
    if r_2 = 0 then (
      f_X8_worth_21 v1 v2 I L)
    else (
      f_X8_worth_22 v1 v2 1 I L)))
set_option maxRecDepth 100000 in
set_option maxHeartbeats 4000000 in
theorem Zf_X8_worth {X : e_X} (hC : e_C X cX8_worth RX8 5 (some .long) 11 gN) (v1 : Int32) (v2 : Int32) (I : e_I) (L : e_L) : Zo X (ph_lIL) (f_X8_worth v1 v2 I L) 0 [(0, .ref 83), (1, .int v1), (2, .int v2)] [] I L := by
  unfold f_X8_worth
  refine zo_aload_n hC dX8_worth_0 rfl 0 rfl ?_
  refine zo_aload_n hC dX8_worth_1 rfl 0 rfl ?_
  refine zo_getZ hC fk8_174 at_83 dX8_worth_2 ?_
  refine zo_if_eq (tgt := 21) hC dX8_worth_5 (by decide) (fun c_1 => ?_) (fun c_1 => ?_)
  · exact Zf_X8_worth_21 hC v1 v2 I L
  · refine zo_iload_n hC dX8_worth_8 rfl 2 rfl ?_
    refine zo_iconst (v := 0) hC (by decide) dX8_worth_9 ?_
    refine zo_iconst (v := 1) hC (by decide) dX8_worth_10 ?_
    refine zo_callS_i hC [.int v2, .int 0, .int 1] [.ref 83] me_X8_in mlX8_83 sm_X8_in (fun p hp => T_X8_in v2 0 1 I L p hp) (by decide) rfl (Nat.le_of_ble_eq_true rfl) dX8_worth_11 rfl (fun r_2 => ?_)
    refine zo_if_eq (tgt := 21) hC dX8_worth_14 (by decide) (fun c_3 => ?_) (fun c_3 => ?_)
    · exact Zf_X8_worth_21 hC v1 v2 I L
    · refine zo_iconst (v := 1) hC (by decide) dX8_worth_17 ?_
      refine zo_goto (tgt := 22) hC dX8_worth_18 (by decide) ?_
      exact Zf_X8_worth_22 hC v1 v2 1 I L

theorem T_X8_worth (v1 : Int32) (v2 : Int32) (I : e_I) (L : e_L) (p : Int64 × e_I × e_L) (hp : f_X8_worth v1 v2 I L = some p) : Mt yX8_worth cX8_worth 5 (some .long) 11 gN [.ref 83, .int v1, .int v2] I L ((ph_lIL) p) := zo_enter hp (by decide) (Nat.le_of_ble_eq_true rfl) (fun X hC => Zf_X8_worth hC v1 v2 I L)
