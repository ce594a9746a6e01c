def f_X8_turn_121 (v3 : Int32) (v4 : Int32) (k159 : Int32 → e_I → e_L → Option (Int32 × e_I × e_L)) : Nat → Int32 → Int32 → e_I → e_L → Option (Int32 × e_I × e_L)
  | 0, _, _, _, _ => none
  | n + 1, v5, v6, I, L =>
    if v4 < v6 then (
      k159 v5 I L)
    else (
      e_let (v5 + 1) (fun (x_2 : Int32) =>
      e_b1 (f_X8_chanceOf (I 85 (72 : Int32).toNatClampNeg) x_2 (I 85 (73 : Int32).toNatClampNeg) I) (fun (r_3 : Int32) =>
      e_let (v6 + r_3) (fun (x_4 : Int32) =>
      f_X8_turn_121 v3 v4 k159 n x_2 x_4 I L))))
set_option maxRecDepth 100000 in
set_option maxHeartbeats 4000000 in
theorem Zf_X8_turn_121 {X : e_X} (hC : e_C X cX8_turn RX8 7 (some .int) 12 gN) (v3 : Int32) (v4 : Int32) (k159 : Int32 → e_I → e_L → Option (Int32 × e_I × e_L)) (hk159 : ∀ (v5 : Int32) (I : e_I) (L : e_L), Zo X (ph_iIL) (k159 v5 I L) 159 [(0, .ref 83), (3, .int v3), (5, .int v5)] [] I L) : ∀ (n : Nat) (v5 : Int32) (v6 : Int32) (I : e_I) (L : e_L), Zo X (ph_iIL) (f_X8_turn_121 v3 v4 k159 n v5 v6 I L) 121 [(0, .ref 83), (3, .int v3), (4, .int v4), (5, .int v5), (6, .int v6)] [] I L := by
  intro n
  induction n with
  | zero => intro v5 v6 I L p hp; cases hp
  | succ n ih =>
    intro v5 v6 I L
    unfold f_X8_turn_121
    refine zo_iload hC dX8_turn_121 2 rfl ?_
    refine zo_iload hC dX8_turn_123 4 rfl ?_
    refine zo_icmp_lt (tgt := 159) hC dX8_turn_125 (by decide) (fun c_1 => ?_) (fun c_1 => ?_)
    · refine zo_sub [0, 1, 3] (lv' := [(0, .ref 83), (3, .int v3), (5, .int v5)]) rfl ?_
      exact hk159 v5 I L
    · refine zo_iinc hC (x := v5) (fun x_2 => [(5, .int x_2), (0, .ref 83), (3, .int v3), (4, .int v4), (6, .int v6)]) dX8_turn_128 3 rfl (by rfl) (by decide) (fun _ => rfl) (fun x_2 => ?_)
      refine zo_iload hC dX8_turn_131 4 rfl ?_
      refine zo_aload_n hC dX8_turn_133 rfl 1 rfl ?_
      refine zo_aload_n hC dX8_turn_134 rfl 1 rfl ?_
      refine zo_getR hC (r := 85) fk8_17 (by decide) gr_83_7 at_83 dX8_turn_135 ?_
      refine zo_bipush (v := 72) hC (by decide) dX8_turn_138 ?_
      refine zo_iald hC ar_85 (e_ix_vp (by decide)) dX8_turn_140 ?_
      refine zo_iload hC dX8_turn_141 0 rfl ?_
      refine zo_aload_n hC dX8_turn_143 rfl 1 rfl ?_
      refine zo_getR hC (r := 85) fk8_17 (by decide) gr_83_7 at_83 dX8_turn_144 ?_
      refine zo_bipush (v := 73) hC (by decide) dX8_turn_147 ?_
      refine zo_iald hC ar_85 (e_ix_vp (by decide)) dX8_turn_149 ?_
      refine zo_callV_i hC (ci := 8) [.int (I 85 (72 : Int32).toNatClampNeg), .int x_2, .int (I 85 (73 : Int32).toNatClampNeg)] [.int v6] me_X8_chanceOf mlX8_202 im_X8_chanceOf se_X8_chanceOf rfl (by decide) at_83 (fun p hp => T_X8_chanceOf (I 85 (72 : Int32).toNatClampNeg) x_2 (I 85 (73 : Int32).toNatClampNeg) I L p hp) (by decide) rfl (Nat.le_of_ble_eq_true rfl) dX8_turn_150 rfl (fun r_3 => ?_)
      refine zo_iadd hC dX8_turn_153 ?_
      refine zo_topi (fun x_4 => ?_)
      refine zo_istore (lv' := [(6, .int x_4), (5, .int x_2), (0, .ref 83), (3, .int v3), (4, .int v4)]) hC dX8_turn_154 (by decide) rfl ?_
      refine zo_goto (tgt := 121) hC dX8_turn_156 (by decide) ?_
      refine zo_sub [2, 3, 4, 1, 0] (lv' := [(0, .ref 83), (3, .int v3), (4, .int v4), (5, .int x_2), (6, .int x_4)]) rfl ?_
      exact ih x_2 x_4 I L

def f_X8_turn_77 (v2 : Int32) (v3 : Int32) (I : e_I) (L : e_L) : Option (Int32 × e_I × e_L) :=
  if v2 ≠ 1 then (
    e_b2 (f_X8_draws L) (fun (r_2 : Int32) (L_3 : e_L) =>
    e_b1 (f_X8_chanceOf (I 85 (72 : Int32).toNatClampNeg) 0 (I 85 (73 : Int32).toNatClampNeg) I) (fun (r_4 : Int32) =>
    f_X8_turn_121 v3 r_2 (fun (v5_5 : Int32) (I_6 : e_I) (L_7 : e_L) =>
      e_b2 (f_X8_happens v5_5 I_6) (fun (r_8 : Int32) (I_9 : e_I) =>
      some ((v3 + r_8), I_9, L_7))) e_FU 0 r_4 I L_3)))
  else (
    e_b2 (f_X8_happens 6 I) (fun (r_10 : Int32) (I_11 : e_I) =>
    some ((v3 + r_10), I_11, L)))
set_option maxRecDepth 100000 in
set_option maxHeartbeats 4000000 in
theorem Zf_X8_turn_77 {X : e_X} (hC : e_C X cX8_turn RX8 7 (some .int) 12 gN) (v2 : Int32) (v3 : Int32) (I : e_I) (L : e_L) : Zo X (ph_iIL) (f_X8_turn_77 v2 v3 I L) 77 [(0, .ref 83), (2, .int v2), (3, .int v3)] [] I L := by
  unfold f_X8_turn_77
  refine zo_iload_n hC dX8_turn_77 rfl 1 rfl ?_
  refine zo_iconst (v := 1) hC (by decide) dX8_turn_78 ?_
  refine zo_icmp_ne (tgt := 91) hC dX8_turn_79 (by decide) (fun c_1 => ?_) (fun c_1 => ?_)
  · refine zo_aload_n hC dX8_turn_91 rfl 0 rfl ?_
    refine zo_callV_iL hC (ci := 8) [] [] me_X8_draws mlX8_339 im_X8_draws se_X8_draws rfl (by decide) at_83 (fun p hp => T_X8_draws I L p hp) (by decide) rfl (Nat.le_of_ble_eq_true rfl) dX8_turn_92 rfl (fun r_2 L_3 => ?_)
    refine zo_istore (lv' := [(4, .int r_2), (0, .ref 83), (2, .int v2), (3, .int v3)]) hC dX8_turn_95 (by decide) rfl ?_
    refine zo_iconst (v := 0) hC (by decide) dX8_turn_97 ?_
    refine zo_istore (lv' := [(5, .int 0), (4, .int r_2), (0, .ref 83), (2, .int v2), (3, .int v3)]) hC dX8_turn_98 (by decide) rfl ?_
    refine zo_aload_n hC dX8_turn_100 rfl 2 rfl ?_
    refine zo_aload_n hC dX8_turn_101 rfl 2 rfl ?_
    refine zo_getR hC (r := 85) fk8_17 (by decide) gr_83_7 at_83 dX8_turn_102 ?_
    refine zo_bipush (v := 72) hC (by decide) dX8_turn_105 ?_
    refine zo_iald hC ar_85 (e_ix_vp (by decide)) dX8_turn_107 ?_
    refine zo_iconst (v := 0) hC (by decide) dX8_turn_108 ?_
    refine zo_aload_n hC dX8_turn_109 rfl 2 rfl ?_
    refine zo_getR hC (r := 85) fk8_17 (by decide) gr_83_7 at_83 dX8_turn_110 ?_
    refine zo_bipush (v := 73) hC (by decide) dX8_turn_113 ?_
    refine zo_iald hC ar_85 (e_ix_vp (by decide)) dX8_turn_115 ?_
    refine zo_callV_i hC (ci := 8) [.int (I 85 (72 : Int32).toNatClampNeg), .int 0, .int (I 85 (73 : Int32).toNatClampNeg)] [] me_X8_chanceOf mlX8_202 im_X8_chanceOf se_X8_chanceOf rfl (by decide) at_83 (fun p hp => T_X8_chanceOf (I 85 (72 : Int32).toNatClampNeg) 0 (I 85 (73 : Int32).toNatClampNeg) I L_3 p hp) (by decide) rfl (Nat.le_of_ble_eq_true rfl) dX8_turn_116 rfl (fun r_4 => ?_)
    refine zo_istore (lv' := [(6, .int r_4), (5, .int 0), (4, .int r_2), (0, .ref 83), (2, .int v2), (3, .int v3)]) hC dX8_turn_119 (by decide) rfl ?_
    refine zo_sub [3, 5, 2, 1, 0] (lv' := [(0, .ref 83), (3, .int v3), (4, .int r_2), (5, .int 0), (6, .int r_4)]) rfl ?_
    refine Zf_X8_turn_121 hC v3 r_2 _ (fun v5_5 I_6 L_7 => ?_) e_FU 0 r_4 I L_3
    · refine zo_iload_n hC dX8_turn_159 rfl 1 rfl ?_
      refine zo_aload_n hC dX8_turn_160 rfl 0 rfl ?_
      refine zo_iload hC dX8_turn_161 2 rfl ?_
      refine zo_callV_iI hC (ci := 8) [.int v5_5] [.int v3] me_X8_happens mlX8_342 im_X8_happens se_X8_happens rfl (by decide) at_83 (fun p hp => T_X8_happens v5_5 I_6 L_7 p hp) (by decide) rfl (Nat.le_of_ble_eq_true rfl) dX8_turn_163 rfl (fun r_8 I_9 => ?_)
      refine zo_iadd hC dX8_turn_166 ?_
      exact zo_iret hC rfl dX8_turn_167
  · refine zo_iload_n hC dX8_turn_82 rfl 2 rfl ?_
    refine zo_aload_n hC dX8_turn_83 rfl 0 rfl ?_
    refine zo_bipush (v := 6) hC (by decide) dX8_turn_84 ?_
    refine zo_callV_iI hC (ci := 8) [.int 6] [.int v3] me_X8_happens mlX8_342 im_X8_happens se_X8_happens rfl (by decide) at_83 (fun p hp => T_X8_happens 6 I L p hp) (by decide) rfl (Nat.le_of_ble_eq_true rfl) dX8_turn_86 rfl (fun r_10 I_11 => ?_)
    refine zo_iadd hC dX8_turn_89 ?_
    exact zo_iret hC rfl dX8_turn_90

def f_X8_turn_52 (v4 : Int32) (s0 : Int32) (s2 : Int32) (I : e_I) (L : e_L) : Option (Int32 × e_I × e_L) :=
  e_b2 (f_X8_happens s0 I) (fun (r_1 : Int32) (I_2 : e_I) =>
  e_let (s2 + r_1) (fun (x_3 : Int32) =>
  if (I_2 85 (69 : Int32).toNatClampNeg) = v4 then (
    e_b3 (f_X8_chooses 0 I_2 L) (fun (r_5 : Int32) (I_6 : e_I) (L_7 : e_L) =>
    f_X8_turn_77 r_5 x_3 I_6 L_7))
  else (
    some (x_3, I_2, L))))
set_option maxRecDepth 100000 in
set_option maxHeartbeats 4000000 in
theorem Zf_X8_turn_52 {X : e_X} (hC : e_C X cX8_turn RX8 7 (some .int) 12 gN) (v4 : Int32) (s0 : Int32) (s2 : Int32) (I : e_I) (L : e_L) : Zo X (ph_iIL) (f_X8_turn_52 v4 s0 s2 I L) 52 [(0, .ref 83), (4, .int v4)] [.int s0, .ref 83, .int s2] I L := by
  unfold f_X8_turn_52
  refine zo_callV_iI hC (ci := 8) [.int s0] [.int s2] me_X8_happens mlX8_342 im_X8_happens se_X8_happens rfl (by decide) at_83 (fun p hp => T_X8_happens s0 I L p hp) (by decide) rfl (Nat.le_of_ble_eq_true rfl) dX8_turn_52 rfl (fun r_1 I_2 => ?_)
  refine zo_iadd hC dX8_turn_55 ?_
  refine zo_topi (fun x_3 => ?_)
  refine zo_istore_n (lv' := [(3, .int x_3), (0, .ref 83), (4, .int v4)]) hC dX8_turn_56 rfl (by decide) rfl ?_
  refine zo_aload_n hC dX8_turn_57 rfl 1 rfl ?_
  refine zo_getR hC (r := 85) fk8_17 (by decide) gr_83_7 at_83 dX8_turn_58 ?_
  refine zo_bipush (v := 69) hC (by decide) dX8_turn_61 ?_
  refine zo_iald hC ar_85 (e_ix_vp (by decide)) dX8_turn_63 ?_
  refine zo_iload hC dX8_turn_64 2 rfl ?_
  refine zo_icmp_eq (tgt := 71) hC dX8_turn_66 (by decide) (fun c_4 => ?_) (fun c_4 => ?_)
  · refine zo_aload_n hC dX8_turn_71 rfl 1 rfl ?_
    refine zo_iconst (v := 0) hC (by decide) dX8_turn_72 ?_
    refine zo_callV_iIL hC (ci := 8) [.int 0] [] me_X8_chooses mlX8_336 im_X8_chooses se_X8_chooses rfl (by decide) at_83 (fun p hp => T_X8_chooses 0 I_2 L p hp) (by decide) rfl (Nat.le_of_ble_eq_true rfl) dX8_turn_73 rfl (fun r_5 I_6 L_7 => ?_)
    refine zo_istore_n (lv' := [(2, .int r_5), (3, .int x_3), (0, .ref 83), (4, .int v4)]) hC dX8_turn_76 rfl (by decide) rfl ?_
    refine zo_sub [2, 0, 1] (lv' := [(0, .ref 83), (2, .int r_5), (3, .int x_3)]) rfl ?_
    exact Zf_X8_turn_77 hC r_5 x_3 I_6 L_7
  · refine zo_iload_n hC dX8_turn_69 rfl 0 rfl ?_
    exact zo_iret hC rfl dX8_turn_70

def f_X8_turn_13 (s0 : Int32) (I : e_I) (L : e_L) : Option (Int32 × e_I × e_L) :=
  if s0 ≠ 2 then (
    f_X8_turn_77 s0 0 I L)
  else (
    e_let (I 85 (69 : Int32).toNatClampNeg) (fun (x_2 : Int32) =>
    e_b2 (f_X8_draws L) (fun (r_3 : Int32) (L_4 : e_L) =>
    if r_3 ≥ (I 85 (4 : Int32).toNatClampNeg) then (
      f_X8_turn_52 x_2 8 0 I L_4)
    else (
      f_X8_turn_52 x_2 7 0 I L_4))))
set_option maxRecDepth 100000 in
set_option maxHeartbeats 4000000 in
theorem Zf_X8_turn_13 {X : e_X} (hC : e_C X cX8_turn RX8 7 (some .int) 12 gN) (s0 : Int32) (I : e_I) (L : e_L) : Zo X (ph_iIL) (f_X8_turn_13 s0 I L) 13 [(0, .ref 83)] [.int s0] I L := by
  unfold f_X8_turn_13
  refine zo_istore_n (lv' := [(2, .int s0), (0, .ref 83)]) hC dX8_turn_13 rfl (by decide) rfl ?_
  refine zo_iconst (v := 0) hC (by decide) dX8_turn_14 ?_
  refine zo_istore_n (lv' := [(3, .int 0), (2, .int s0), (0, .ref 83)]) hC dX8_turn_15 rfl (by decide) rfl ?_
  refine zo_iload_n hC dX8_turn_16 rfl 1 rfl ?_
  refine zo_iconst (v := 2) hC (by decide) dX8_turn_17 ?_
  refine zo_icmp_ne (tgt := 77) hC dX8_turn_18 (by decide) (fun c_1 => ?_) (fun c_1 => ?_)
  · refine zo_sub [2, 1, 0] (lv' := [(0, .ref 83), (2, .int s0), (3, .int 0)]) rfl ?_
    exact Zf_X8_turn_77 hC s0 0 I L
  · refine zo_aload_n hC dX8_turn_21 rfl 2 rfl ?_
    refine zo_getR hC (r := 85) fk8_17 (by decide) gr_83_7 at_83 dX8_turn_22 ?_
    refine zo_bipush (v := 69) hC (by decide) dX8_turn_25 ?_
    refine zo_iald hC ar_85 (e_ix_vp (by decide)) dX8_turn_27 ?_
    refine zo_topi (fun x_2 => ?_)
    refine zo_istore (lv' := [(4, .int x_2), (3, .int 0), (2, .int s0), (0, .ref 83)]) hC dX8_turn_28 (by decide) rfl ?_
    refine zo_iload_n hC dX8_turn_30 rfl 1 rfl ?_
    refine zo_aload_n hC dX8_turn_31 rfl 3 rfl ?_
    refine zo_aload_n hC dX8_turn_32 rfl 3 rfl ?_
    refine zo_callV_iL hC (ci := 8) [] [.ref 83, .int 0] me_X8_draws mlX8_339 im_X8_draws se_X8_draws rfl (by decide) at_83 (fun p hp => T_X8_draws I L p hp) (by decide) rfl (Nat.le_of_ble_eq_true rfl) dX8_turn_33 rfl (fun r_3 L_4 => ?_)
    refine zo_aload_n hC dX8_turn_36 rfl 3 rfl ?_
    refine zo_getR hC (r := 85) fk8_17 (by decide) gr_83_7 at_83 dX8_turn_37 ?_
    refine zo_iconst (v := 4) hC (by decide) dX8_turn_40 ?_
    refine zo_iald hC ar_85 (e_ix_vp (by decide)) dX8_turn_41 ?_
    refine zo_icmp_ge (tgt := 50) hC dX8_turn_42 (by decide) (fun c_5 => ?_) (fun c_5 => ?_)
    · refine zo_bipush (v := 8) hC (by decide) dX8_turn_50 ?_
      refine zo_sub [3, 0] (lv' := [(0, .ref 83), (4, .int x_2)]) rfl ?_
      exact Zf_X8_turn_52 hC x_2 8 0 I L_4
    · refine zo_bipush (v := 7) hC (by decide) dX8_turn_45 ?_
      refine zo_goto (tgt := 52) hC dX8_turn_47 (by decide) ?_
      refine zo_sub [3, 0] (lv' := [(0, .ref 83), (4, .int x_2)]) rfl ?_
      exact Zf_X8_turn_52 hC x_2 7 0 I L_4

def f_X8_turn (v1 : Int32) (I : e_I) (L : e_L) : Option (Int32 × e_I × e_L) :=
  if v1 = 0 then (
    f_X8_turn_13 0 I L)
  else (
    e_b3 (f_X8_chooses 1 I L) (fun (r_2 : Int32) (I_3 : e_I) (L_4 : e_L) =>
    f_X8_turn_13 r_2 I_3 L_4))
set_option maxRecDepth 100000 in
set_option maxHeartbeats 4000000 in
theorem Zf_X8_turn {X : e_X} (hC : e_C X cX8_turn RX8 7 (some .int) 12 gN) (v1 : Int32) (I : e_I) (L : e_L) : Zo X (ph_iIL) (f_X8_turn v1 I L) 0 [(0, .ref 83), (1, .int v1)] [] I L := by
  unfold f_X8_turn
  refine zo_iload_n hC dX8_turn_0 rfl 1 rfl ?_
  refine zo_if_eq (tgt := 12) hC dX8_turn_1 (by decide) (fun c_1 => ?_) (fun c_1 => ?_)
  · refine zo_iconst (v := 0) hC (by decide) dX8_turn_12 ?_
    refine zo_sub [0] (lv' := [(0, .ref 83)]) rfl ?_
    exact Zf_X8_turn_13 hC 0 I L
  · refine zo_aload_n hC dX8_turn_4 rfl 0 rfl ?_
    refine zo_iconst (v := 1) hC (by decide) dX8_turn_5 ?_
    refine zo_callV_iIL hC (ci := 8) [.int 1] [] me_X8_chooses mlX8_336 im_X8_chooses se_X8_chooses rfl (by decide) at_83 (fun p hp => T_X8_chooses 1 I L p hp) (by decide) rfl (Nat.le_of_ble_eq_true rfl) dX8_turn_6 rfl (fun r_2 I_3 L_4 => ?_)
    refine zo_goto (tgt := 13) hC dX8_turn_9 (by decide) ?_
    refine zo_sub [0] (lv' := [(0, .ref 83)]) rfl ?_
    exact Zf_X8_turn_13 hC r_2 I_3 L_4

theorem T_X8_turn (v1 : Int32) (I : e_I) (L : e_L) (p : Int32 × e_I × e_L) (hp : f_X8_turn v1 I L = some p) : Mt yX8_turn cX8_turn 7 (some .int) 12 gN [.ref 83, .int v1] I L ((ph_iIL) p) := zo_enter hp (by decide) (Nat.le_of_ble_eq_true rfl) (fun X hC => Zf_X8_turn hC v1 I L)
def f_X8_innings_172 (v2 : Int32) (v3 : Int32) (v4 : Int32) (k98 : Int32 → Int32 → Int32 → e_I → e_L → Option (Int32 × e_I × e_L)) (k177 : Int32 → Int32 → e_I → e_L → Option (Int32 × e_I × e_L)) (v5 : Int32) (v6 : Int32) (s0 : Int32) (I : e_I) (L : e_L) : Option (Int32 × e_I × e_L) :=
  k98 v5 v6 s0 I L
set_option maxRecDepth 100000 in
set_option maxHeartbeats 4000000 in
theorem Zf_X8_innings_172 {X : e_X} (hC : e_C X cX8_innings RX8 9 (some .int) 13 gN) (v2 : Int32) (v3 : Int32) (v4 : Int32) (k98 : Int32 → Int32 → Int32 → e_I → e_L → Option (Int32 × e_I × e_L)) (k177 : Int32 → Int32 → e_I → e_L → Option (Int32 × e_I × e_L)) (hk98 : ∀ (v5 : Int32) (v6 : Int32) (v7 : Int32) (I : e_I) (L : e_L), Zo X (ph_iIL) (k98 v5 v6 v7 I L) 98 [(0, .ref 83), (2, .int v2), (3, .int v3), (4, .int v4), (5, .int v5), (6, .int v6), (7, .int v7)] [] I L) (hk177 : ∀ (v5 : Int32) (v6 : Int32) (I : e_I) (L : e_L), Zo X (ph_iIL) (k177 v5 v6 I L) 177 [(0, .ref 83), (4, .int v4), (5, .int v5), (6, .int v6)] [] I L) (v5 : Int32) (v6 : Int32) (s0 : Int32) (I : e_I) (L : e_L) : Zo X (ph_iIL) (f_X8_innings_172 v2 v3 v4 k98 k177 v5 v6 s0 I L) 172 [(0, .ref 83), (2, .int v2), (3, .int v3), (4, .int v4), (5, .int v5), (6, .int v6)] [.int s0] I L := by
  unfold f_X8_innings_172
  refine zo_istore (lv' := [(7, .int s0), (0, .ref 83), (2, .int v2), (3, .int v3), (4, .int v4), (5, .int v5), (6, .int v6)]) hC dX8_innings_172 (by decide) rfl ?_
  refine zo_goto (tgt := 98) hC dX8_innings_174 (by decide) ?_
  refine zo_sub [1, 2, 3, 4, 5, 6, 0] (lv' := [(0, .ref 83), (2, .int v2), (3, .int v3), (4, .int v4), (5, .int v5), (6, .int v6), (7, .int s0)]) rfl ?_
  exact hk98 v5 v6 s0 I L

def f_X8_innings_152 (v2 : Int32) (v3 : Int32) (v4 : Int32) (k98 : Int32 → Int32 → Int32 → e_I → e_L → Option (Int32 × e_I × e_L)) (k177 : Int32 → Int32 → e_I → e_L → Option (Int32 × e_I × e_L)) (v5 : Int32) (v7 : Int32) (v8 : Int32) (s0 : Int32) (I : e_I) (L : e_L) : Option (Int32 × e_I × e_L) :=
  if (I 85 (69 : Int32).toNatClampNeg) ≠ v8 then (
    f_X8_innings_172 v2 v3 v4 k98 k177 v5 s0 0 I L)
  else (
    f_X8_innings_172 v2 v3 v4 k98 k177 v5 s0 v7 I L)
set_option maxRecDepth 100000 in
set_option maxHeartbeats 4000000 in
theorem Zf_X8_innings_152 {X : e_X} (hC : e_C X cX8_innings RX8 9 (some .int) 13 gN) (v2 : Int32) (v3 : Int32) (v4 : Int32) (k98 : Int32 → Int32 → Int32 → e_I → e_L → Option (Int32 × e_I × e_L)) (k177 : Int32 → Int32 → e_I → e_L → Option (Int32 × e_I × e_L)) (hk98 : ∀ (v5 : Int32) (v6 : Int32) (v7 : Int32) (I : e_I) (L : e_L), Zo X (ph_iIL) (k98 v5 v6 v7 I L) 98 [(0, .ref 83), (2, .int v2), (3, .int v3), (4, .int v4), (5, .int v5), (6, .int v6), (7, .int v7)] [] I L) (hk177 : ∀ (v5 : Int32) (v6 : Int32) (I : e_I) (L : e_L), Zo X (ph_iIL) (k177 v5 v6 I L) 177 [(0, .ref 83), (4, .int v4), (5, .int v5), (6, .int v6)] [] I L) (v5 : Int32) (v7 : Int32) (v8 : Int32) (s0 : Int32) (I : e_I) (L : e_L) : Zo X (ph_iIL) (f_X8_innings_152 v2 v3 v4 k98 k177 v5 v7 v8 s0 I L) 152 [(0, .ref 83), (2, .int v2), (3, .int v3), (4, .int v4), (5, .int v5), (7, .int v7), (8, .int v8)] [.int s0] I L := by
  unfold f_X8_innings_152
  refine zo_istore (lv' := [(6, .int s0), (0, .ref 83), (2, .int v2), (3, .int v3), (4, .int v4), (5, .int v5), (7, .int v7), (8, .int v8)]) hC dX8_innings_152 (by decide) rfl ?_
  refine zo_aload_n hC dX8_innings_154 rfl 1 rfl ?_
  refine zo_getR hC (r := 85) fk8_17 (by decide) gr_83_7 at_83 dX8_innings_155 ?_
  refine zo_bipush (v := 69) hC (by decide) dX8_innings_158 ?_
  refine zo_iald hC ar_85 (e_ix_vp (by decide)) dX8_innings_160 ?_
  refine zo_iload hC dX8_innings_161 7 rfl ?_
  refine zo_icmp_ne (tgt := 171) hC dX8_innings_163 (by decide) (fun c_1 => ?_) (fun c_1 => ?_)
  · refine zo_iconst (v := 0) hC (by decide) dX8_innings_171 ?_
    refine zo_sub [1, 2, 3, 4, 5, 0] (lv' := [(0, .ref 83), (2, .int v2), (3, .int v3), (4, .int v4), (5, .int v5), (6, .int s0)]) rfl ?_
    exact Zf_X8_innings_172 hC v2 v3 v4 k98 k177 hk98 hk177 v5 s0 0 I L
  · refine zo_iload hC dX8_innings_166 6 rfl ?_
    refine zo_goto (tgt := 172) hC dX8_innings_168 (by decide) ?_
    refine zo_sub [1, 2, 3, 4, 5, 0] (lv' := [(0, .ref 83), (2, .int v2), (3, .int v3), (4, .int v4), (5, .int v5), (6, .int s0)]) rfl ?_
    exact Zf_X8_innings_172 hC v2 v3 v4 k98 k177 hk98 hk177 v5 s0 v7 I L

def f_X8_innings_98 (v2 : Int32) (v3 : Int32) (v4 : Int32) (k177 : Int32 → Int32 → e_I → e_L → Option (Int32 × e_I × e_L)) : Nat → Int32 → Int32 → Int32 → e_I → e_L → Option (Int32 × e_I × e_L)
  | 0, _, _, _, _, _ => none
  | n + 1, v5, v6, v7, I, L =>
    if (I 85 (69 : Int32).toNatClampNeg) > v2 then (
      k177 v5 v6 I L)
    else (
      if v5 ≥ 100 then (
        k177 v5 v6 I L)
      else (
        e_let (I 85 (69 : Int32).toNatClampNeg) (fun (x_3 : Int32) =>
        e_b3 (f_X8_turn v3 I L) (fun (r_4 : Int32) (I_5 : e_I) (L_6 : e_L) =>
        e_let (v7 + r_4) (fun (x_7 : Int32) =>
        e_let (v5 + 1) (fun (x_8 : Int32) =>
        if x_7 ≤ v6 then (
          f_X8_innings_152 v2 v3 v4 (fun v5 v6 v7 I L => f_X8_innings_98 v2 v3 v4 k177 n v5 v6 v7 I L) k177 x_8 x_7 x_3 v6 I_5 L_6)
        else (
          f_X8_innings_152 v2 v3 v4 (fun v5 v6 v7 I L => f_X8_innings_98 v2 v3 v4 k177 n v5 v6 v7 I L) k177 x_8 x_7 x_3 x_7 I_5 L_6)))))))
set_option maxRecDepth 100000 in
set_option maxHeartbeats 4000000 in
theorem Zf_X8_innings_98 {X : e_X} (hC : e_C X cX8_innings RX8 9 (some .int) 13 gN) (v2 : Int32) (v3 : Int32) (v4 : Int32) (k177 : Int32 → Int32 → e_I → e_L → Option (Int32 × e_I × e_L)) (hk177 : ∀ (v5 : Int32) (v6 : Int32) (I : e_I) (L : e_L), Zo X (ph_iIL) (k177 v5 v6 I L) 177 [(0, .ref 83), (4, .int v4), (5, .int v5), (6, .int v6)] [] I L) : ∀ (n : Nat) (v5 : Int32) (v6 : Int32) (v7 : Int32) (I : e_I) (L : e_L), Zo X (ph_iIL) (f_X8_innings_98 v2 v3 v4 k177 n v5 v6 v7 I L) 98 [(0, .ref 83), (2, .int v2), (3, .int v3), (4, .int v4), (5, .int v5), (6, .int v6), (7, .int v7)] [] I L := by
  intro n
  induction n with
  | zero => intro v5 v6 v7 I L p hp; cases hp
  | succ n ih =>
    intro v5 v6 v7 I L
    unfold f_X8_innings_98
    refine zo_aload_n hC dX8_innings_98 rfl 0 rfl ?_
    refine zo_getR hC (r := 85) fk8_17 (by decide) gr_83_7 at_83 dX8_innings_99 ?_
    refine zo_bipush (v := 69) hC (by decide) dX8_innings_102 ?_
    refine zo_iald hC ar_85 (e_ix_vp (by decide)) dX8_innings_104 ?_
    refine zo_iload_n hC dX8_innings_105 rfl 1 rfl ?_
    refine zo_icmp_gt (tgt := 177) hC dX8_innings_106 (by decide) (fun c_1 => ?_) (fun c_1 => ?_)
    · refine zo_sub [0, 3, 4, 5] (lv' := [(0, .ref 83), (4, .int v4), (5, .int v5), (6, .int v6)]) rfl ?_
      exact hk177 v5 v6 I L
    · refine zo_iload hC dX8_innings_109 4 rfl ?_
      refine zo_bipush (v := 100) hC (by decide) dX8_innings_111 ?_
      refine zo_icmp_ge (tgt := 177) hC dX8_innings_113 (by decide) (fun c_2 => ?_) (fun c_2 => ?_)
      · refine zo_sub [0, 3, 4, 5] (lv' := [(0, .ref 83), (4, .int v4), (5, .int v5), (6, .int v6)]) rfl ?_
        exact hk177 v5 v6 I L
      · refine zo_aload_n hC dX8_innings_116 rfl 0 rfl ?_
        refine zo_getR hC (r := 85) fk8_17 (by decide) gr_83_7 at_83 dX8_innings_117 ?_
        refine zo_bipush (v := 69) hC (by decide) dX8_innings_120 ?_
        refine zo_iald hC ar_85 (e_ix_vp (by decide)) dX8_innings_122 ?_
        refine zo_topi (fun x_3 => ?_)
        refine zo_istore (lv' := [(8, .int x_3), (0, .ref 83), (2, .int v2), (3, .int v3), (4, .int v4), (5, .int v5), (6, .int v6), (7, .int v7)]) hC dX8_innings_123 (by decide) rfl ?_
        refine zo_iload hC dX8_innings_125 7 rfl ?_
        refine zo_aload_n hC dX8_innings_127 rfl 1 rfl ?_
        refine zo_iload_n hC dX8_innings_128 rfl 3 rfl ?_
        refine zo_callV_iIL hC (ci := 8) [.int v3] [.int v7] me_X8_turn mlX8_346 im_X8_turn se_X8_turn rfl (by decide) at_83 (fun p hp => T_X8_turn v3 I L p hp) (by decide) rfl (Nat.le_of_ble_eq_true rfl) dX8_innings_129 rfl (fun r_4 I_5 L_6 => ?_)
        refine zo_iadd hC dX8_innings_132 ?_
        refine zo_topi (fun x_7 => ?_)
        refine zo_istore (lv' := [(7, .int x_7), (8, .int x_3), (0, .ref 83), (2, .int v2), (3, .int v3), (4, .int v4), (5, .int v5), (6, .int v6)]) hC dX8_innings_133 (by decide) rfl ?_
        refine zo_iinc hC (x := v5) (fun x_8 => [(5, .int x_8), (7, .int x_7), (8, .int x_3), (0, .ref 83), (2, .int v2), (3, .int v3), (4, .int v4), (6, .int v6)]) dX8_innings_135 6 rfl (by rfl) (by decide) (fun _ => rfl) (fun x_8 => ?_)
        refine zo_iload hC dX8_innings_138 1 rfl ?_
        refine zo_iload hC dX8_innings_140 7 rfl ?_
        refine zo_icmp_le (tgt := 150) hC dX8_innings_142 (by decide) (fun c_9 => ?_) (fun c_9 => ?_)
        · refine zo_iload hC dX8_innings_150 7 rfl ?_
          refine zo_sub [3, 4, 5, 6, 0, 1, 2] (lv' := [(0, .ref 83), (2, .int v2), (3, .int v3), (4, .int v4), (5, .int x_8), (7, .int x_7), (8, .int x_3)]) rfl ?_
          exact Zf_X8_innings_152 hC v2 v3 v4 (fun v5 v6 v7 I L => f_X8_innings_98 v2 v3 v4 k177 n v5 v6 v7 I L) k177 (fun v5 v6 v7 I L => ih v5 v6 v7 I L) hk177 x_8 x_7 x_3 v6 I_5 L_6
        · refine zo_iload hC dX8_innings_145 1 rfl ?_
          refine zo_goto (tgt := 152) hC dX8_innings_147 (by decide) ?_
          refine zo_sub [3, 4, 5, 6, 0, 1, 2] (lv' := [(0, .ref 83), (2, .int v2), (3, .int v3), (4, .int v4), (5, .int x_8), (7, .int x_7), (8, .int x_3)]) rfl ?_
          exact Zf_X8_innings_152 hC v2 v3 v4 (fun v5 v6 v7 I L => f_X8_innings_98 v2 v3 v4 k177 n v5 v6 v7 I L) k177 (fun v5 v6 v7 I L => ih v5 v6 v7 I L) hk177 x_8 x_7 x_3 x_7 I_5 L_6

def f_X8_innings_225 (s0 : Int32) (I : e_I) (L : e_L) : Option (Int32 × e_I × e_L) :=
  some (s0, I, L)
set_option maxRecDepth 100000 in
set_option maxHeartbeats 4000000 in
theorem Zf_X8_innings_225 {X : e_X} (hC : e_C X cX8_innings RX8 9 (some .int) 13 gN) (s0 : Int32) (I : e_I) (L : e_L) : Zo X (ph_iIL) (f_X8_innings_225 s0 I L) 225 [] [.int s0] I L := by
  unfold f_X8_innings_225
  exact zo_iret hC rfl dX8_innings_225

def f_X8_innings_49 (v1 : Int32) (v2 : Int32) (v3 : Int32) (v4 : Int32) (s0 : Int32) (s1 : Int32) (I : e_I) (L : e_L) : Option (Int32 × e_I × e_L) :=
  e_b1 (f_X8_unless_ s1 s0) (fun (r_1 : Int32) =>
  e_b2 (f_X8_isRefused r_1 I) (fun (r_2 : Int32) (I_3 : e_I) =>
  if r_2 = 0 then (
    e_b1 (f_X8_lays 95 85 0 0 396 I_3) (fun (I_5 : e_I) =>
    e_b1 (f_X8_begins 85 I_5) (fun (I_6 : e_I) =>
    e_let (e_ul L 83 31 v1.toInt64) (fun (L_7 : e_L) =>
    f_X8_innings_98 v2 v3 v4 (fun (v5_8 : Int32) (v6_9 : Int32) (I_10 : e_I) (L_11 : e_L) =>
      e_let (I_10 85 (74 : Int32).toNatClampNeg) (fun (x_12 : Int32) =>
      e_b1 (f_X8_lays 85 95 0 0 396 I_10) (fun (I_13 : e_I) =>
      if v4 ≠ 0 then (
        if v4 ≠ 1 then (
          f_X8_innings_225 v6_9 I_13 L_11)
        else (
          f_X8_innings_225 v5_8 I_13 L_11))
      else (
        f_X8_innings_225 x_12 I_13 L_11)))) e_FU 0 0 0 I_6 L_7))))
  else (
    some ((-1), I_3, L))))
set_option maxRecDepth 100000 in
set_option maxHeartbeats 4000000 in
theorem Zf_X8_innings_49 {X : e_X} (hC : e_C X cX8_innings RX8 9 (some .int) 13 gN) (v1 : Int32) (v2 : Int32) (v3 : Int32) (v4 : Int32) (s0 : Int32) (s1 : Int32) (I : e_I) (L : e_L) : Zo X (ph_iIL) (f_X8_innings_49 v1 v2 v3 v4 s0 s1 I L) 49 [(0, .ref 83), (1, .int v1), (2, .int v2), (3, .int v3), (4, .int v4)] [.int s0, .int s1, .ref 83] I L := by
  unfold f_X8_innings_49
  refine zo_callS_i hC [.int s1, .int s0] [.ref 83] me_X8_unless_ mlX8_158 sm_X8_unless_ (fun p hp => T_X8_unless_ s1 s0 I L p hp) (by decide) rfl (Nat.le_of_ble_eq_true rfl) dX8_innings_49 rfl (fun r_1 => ?_)
  refine zo_callV_iI hC (ci := 8) [.int r_1] [] me_X8_isRefused mlX8_162 im_X8_isRefused se_X8_isRefused rfl (by decide) at_83 (fun p hp => T_X8_isRefused r_1 I L p hp) (by decide) rfl (Nat.le_of_ble_eq_true rfl) dX8_innings_52 rfl (fun r_2 I_3 => ?_)
  refine zo_if_eq (tgt := 60) hC dX8_innings_55 (by decide) (fun c_4 => ?_) (fun c_4 => ?_)
  · refine zo_aload_n hC dX8_innings_60 rfl 0 rfl ?_
    refine zo_getR hC (r := 95) fk8_48 (by decide) gr_83_32 at_83 dX8_innings_61 ?_
    refine zo_iconst (v := 0) hC (by decide) dX8_innings_64 ?_
    refine zo_aload_n hC dX8_innings_65 rfl 0 rfl ?_
    refine zo_getR hC (r := 85) fk8_17 (by decide) gr_83_7 at_83 dX8_innings_66 ?_
    refine zo_iconst (v := 0) hC (by decide) dX8_innings_69 ?_
    refine zo_sipush (v := 396) hC (by decide) dX8_innings_70 ?_
    refine zo_callS_vI hC [.ref 95, .int 0, .ref 85, .int 0, .int 396] [] me_X8_lays mlX8_181 sm_X8_lays (fun p hp => T_X8_lays 95 ir_95 85 ir_85 0 0 396 I_3 L p hp) (by decide) rfl (Nat.le_of_ble_eq_true rfl) dX8_innings_73 rfl (fun I_5 => ?_)
    refine zo_aload_n hC dX8_innings_76 rfl 0 rfl ?_
    refine zo_getR hC (r := 85) fk8_17 (by decide) gr_83_7 at_83 dX8_innings_77 ?_
    refine zo_callS_vI hC [.ref 85] [] me_X8_begins mlX8_185 sm_X8_begins (fun p hp => T_X8_begins 85 ir_85 I_5 L p hp) (by decide) rfl (Nat.le_of_ble_eq_true rfl) dX8_innings_80 rfl (fun I_6 => ?_)
    refine zo_aload_n hC dX8_innings_83 rfl 0 rfl ?_
    refine zo_iload_n hC dX8_innings_84 rfl 1 rfl ?_
    refine zo_i2l hC dX8_innings_85 ?_
    refine zo_putL hC fk8_329 ff8_31 at_83 dX8_innings_86 ?_
    refine zo_topL (fun L_7 => ?_)
    refine zo_iconst (v := 0) hC (by decide) dX8_innings_89 ?_
    refine zo_istore (lv' := [(5, .int 0), (0, .ref 83), (1, .int v1), (2, .int v2), (3, .int v3), (4, .int v4)]) hC dX8_innings_90 (by decide) rfl ?_
    refine zo_iconst (v := 0) hC (by decide) dX8_innings_92 ?_
    refine zo_istore (lv' := [(6, .int 0), (5, .int 0), (0, .ref 83), (1, .int v1), (2, .int v2), (3, .int v3), (4, .int v4)]) hC dX8_innings_93 (by decide) rfl ?_
    refine zo_iconst (v := 0) hC (by decide) dX8_innings_95 ?_
    refine zo_istore (lv' := [(7, .int 0), (6, .int 0), (5, .int 0), (0, .ref 83), (1, .int v1), (2, .int v2), (3, .int v3), (4, .int v4)]) hC dX8_innings_96 (by decide) rfl ?_
    refine zo_sub [3, 5, 6, 7, 2, 1, 0] (lv' := [(0, .ref 83), (2, .int v2), (3, .int v3), (4, .int v4), (5, .int 0), (6, .int 0), (7, .int 0)]) rfl ?_
    refine Zf_X8_innings_98 hC v2 v3 v4 _ (fun v5_8 v6_9 I_10 L_11 => ?_) e_FU 0 0 0 I_6 L_7
    · refine zo_aload_n hC dX8_innings_177 rfl 0 rfl ?_
      refine zo_getR hC (r := 85) fk8_17 (by decide) gr_83_7 at_83 dX8_innings_178 ?_
      refine zo_bipush (v := 74) hC (by decide) dX8_innings_181 ?_
      refine zo_iald hC ar_85 (e_ix_vp (by decide)) dX8_innings_183 ?_
      refine zo_topi (fun x_12 => ?_)
      refine zo_istore (lv' := [(8, .int x_12), (0, .ref 83), (4, .int v4), (5, .int v5_8), (6, .int v6_9)]) hC dX8_innings_184 (by decide) rfl ?_
      refine zo_aload_n hC dX8_innings_186 rfl 1 rfl ?_
      refine zo_getR hC (r := 85) fk8_17 (by decide) gr_83_7 at_83 dX8_innings_187 ?_
      refine zo_iconst (v := 0) hC (by decide) dX8_innings_190 ?_
      refine zo_aload_n hC dX8_innings_191 rfl 1 rfl ?_
      refine zo_getR hC (r := 95) fk8_48 (by decide) gr_83_32 at_83 dX8_innings_192 ?_
      refine zo_iconst (v := 0) hC (by decide) dX8_innings_195 ?_
      refine zo_sipush (v := 396) hC (by decide) dX8_innings_196 ?_
      refine zo_callS_vI hC [.ref 85, .int 0, .ref 95, .int 0, .int 396] [] me_X8_lays mlX8_181 sm_X8_lays (fun p hp => T_X8_lays 85 ir_85 95 ir_95 0 0 396 I_10 L_11 p hp) (by decide) rfl (Nat.le_of_ble_eq_true rfl) dX8_innings_199 rfl (fun I_13 => ?_)
      refine zo_iload hC dX8_innings_202 2 rfl ?_
      refine zo_if_ne (tgt := 212) hC dX8_innings_204 (by decide) (fun c_14 => ?_) (fun c_14 => ?_)
      · refine zo_iload hC dX8_innings_212 2 rfl ?_
        refine zo_iconst (v := 1) hC (by decide) dX8_innings_214 ?_
        refine zo_icmp_ne (tgt := 223) hC dX8_innings_215 (by decide) (fun c_15 => ?_) (fun c_15 => ?_)
        · refine zo_iload hC dX8_innings_223 4 rfl ?_
          refine zo_sub [] (lv' := []) rfl ?_
          exact Zf_X8_innings_225 hC v6_9 I_13 L_11
        · refine zo_iload hC dX8_innings_218 3 rfl ?_
          refine zo_goto (tgt := 225) hC dX8_innings_220 (by decide) ?_
          refine zo_sub [] (lv' := []) rfl ?_
          exact Zf_X8_innings_225 hC v5_8 I_13 L_11
      · refine zo_iload hC dX8_innings_207 0 rfl ?_
        refine zo_goto (tgt := 225) hC dX8_innings_209 (by decide) ?_
        refine zo_sub [] (lv' := []) rfl ?_
        exact Zf_X8_innings_225 hC x_12 I_13 L_11
  · refine zo_iconst (v := (-1)) hC (by decide) dX8_innings_58 ?_
    exact zo_iret hC rfl dX8_innings_59

def f_X8_innings_48 (v1 : Int32) (v2 : Int32) (v3 : Int32) (v4 : Int32) (s0 : Int32) (I : e_I) (L : e_L) : Option (Int32 × e_I × e_L) :=
  f_X8_innings_49 v1 v2 v3 v4 0 s0 I L
set_option maxRecDepth 100000 in
set_option maxHeartbeats 4000000 in
theorem Zf_X8_innings_48 {X : e_X} (hC : e_C X cX8_innings RX8 9 (some .int) 13 gN) (v1 : Int32) (v2 : Int32) (v3 : Int32) (v4 : Int32) (s0 : Int32) (I : e_I) (L : e_L) : Zo X (ph_iIL) (f_X8_innings_48 v1 v2 v3 v4 s0 I L) 48 [(0, .ref 83), (1, .int v1), (2, .int v2), (3, .int v3), (4, .int v4)] [.int s0, .ref 83] I L := by
  unfold f_X8_innings_48
  refine zo_iconst (v := 0) hC (by decide) dX8_innings_48 ?_
  exact Zf_X8_innings_49 hC v1 v2 v3 v4 0 s0 I L

def f_X8_innings_23 (v1 : Int32) (v2 : Int32) (v3 : Int32) (v4 : Int32) (s0 : Int32) (I : e_I) (L : e_L) : Option (Int32 × e_I × e_L) :=
  e_b1 (f_X8_in v1 1 2147483646) (fun (r_1 : Int32) =>
  if r_1 = 0 then (
    f_X8_innings_48 v1 v2 v3 v4 s0 I L)
  else (
    e_b1 (f_X8_in v2 1 9) (fun (r_3 : Int32) =>
    if r_3 = 0 then (
      f_X8_innings_48 v1 v2 v3 v4 s0 I L)
    else (
      f_X8_innings_49 v1 v2 v3 v4 1 s0 I L))))
set_option maxRecDepth 100000 in
set_option maxHeartbeats 4000000 in
theorem Zf_X8_innings_23 {X : e_X} (hC : e_C X cX8_innings RX8 9 (some .int) 13 gN) (v1 : Int32) (v2 : Int32) (v3 : Int32) (v4 : Int32) (s0 : Int32) (I : e_I) (L : e_L) : Zo X (ph_iIL) (f_X8_innings_23 v1 v2 v3 v4 s0 I L) 23 [(0, .ref 83), (1, .int v1), (2, .int v2), (3, .int v3), (4, .int v4)] [.int s0, .ref 83] I L := by
  unfold f_X8_innings_23
  refine zo_iload_n hC dX8_innings_23 rfl 1 rfl ?_
  refine zo_iconst (v := 1) hC (by decide) dX8_innings_24 ?_
  refine zo_ldcw hC cnX8_345 dX8_innings_25 ?_
  refine zo_callS_i hC [.int v1, .int 1, .int 2147483646] [.int s0, .ref 83] me_X8_in mlX8_83 sm_X8_in (fun p hp => T_X8_in v1 1 2147483646 I L p hp) (by decide) rfl (Nat.le_of_ble_eq_true rfl) dX8_innings_28 rfl (fun r_1 => ?_)
  refine zo_if_eq (tgt := 48) hC dX8_innings_31 (by decide) (fun c_2 => ?_) (fun c_2 => ?_)
  · exact Zf_X8_innings_48 hC v1 v2 v3 v4 s0 I L
  · refine zo_iload_n hC dX8_innings_34 rfl 2 rfl ?_
    refine zo_iconst (v := 1) hC (by decide) dX8_innings_35 ?_
    refine zo_bipush (v := 9) hC (by decide) dX8_innings_36 ?_
    refine zo_callS_i hC [.int v2, .int 1, .int 9] [.int s0, .ref 83] me_X8_in mlX8_83 sm_X8_in (fun p hp => T_X8_in v2 1 9 I L p hp) (by decide) rfl (Nat.le_of_ble_eq_true rfl) dX8_innings_38 rfl (fun r_3 => ?_)
    refine zo_if_eq (tgt := 48) hC dX8_innings_41 (by decide) (fun c_4 => ?_) (fun c_4 => ?_)
    · exact Zf_X8_innings_48 hC v1 v2 v3 v4 s0 I L
    · refine zo_iconst (v := 1) hC (by decide) dX8_innings_44 ?_
      refine zo_goto (tgt := 49) hC dX8_innings_45 (by decide) ?_
      exact Zf_X8_innings_49 hC v1 v2 v3 v4 1 s0 I L

def f_X8_innings_22 (v1 : Int32) (v2 : Int32) (v3 : Int32) (v4 : Int32) (I : e_I) (L : e_L) : Option (Int32 × e_I × e_L) :=
  f_X8_innings_23 v1 v2 v3 v4 0 I L
set_option maxRecDepth 100000 in
set_option maxHeartbeats 4000000 in
theorem Zf_X8_innings_22 {X : e_X} (hC : e_C X cX8_innings RX8 9 (some .int) 13 gN) (v1 : Int32) (v2 : Int32) (v3 : Int32) (v4 : Int32) (I : e_I) (L : e_L) : Zo X (ph_iIL) (f_X8_innings_22 v1 v2 v3 v4 I L) 22 [(0, .ref 83), (1, .int v1), (2, .int v2), (3, .int v3), (4, .int v4)] [.ref 83] I L := by
  unfold f_X8_innings_22
  refine zo_iconst (v := 0) hC (by decide) dX8_innings_22 ?_
  exact Zf_X8_innings_23 hC v1 v2 v3 v4 0 I L

def f_X8_innings (v1 : Int32) (v2 : Int32) (v3 : Int32) (v4 : Int32) (I : e_I) (L : e_L) : Option (Int32 × e_I × e_L) :=
  if (I 83 6) = 0 then (
    f_X8_innings_22 v1 v2 v3 v4 I L)
  else (
    e_b1 (f_X8_in v4 0 2) (fun (r_2 : Int32) =>
    if r_2 = 0 then (
      f_X8_innings_22 v1 v2 v3 v4 I L)
    else (
      f_X8_innings_23 v1 v2 v3 v4 1 I L)))
set_option maxRecDepth 100000 in
set_option maxHeartbeats 4000000 in
theorem Zf_X8_innings {X : e_X} (hC : e_C X cX8_innings RX8 9 (some .int) 13 gN) (v1 : Int32) (v2 : Int32) (v3 : Int32) (v4 : Int32) (I : e_I) (L : e_L) : Zo X (ph_iIL) (f_X8_innings v1 v2 v3 v4 I L) 0 [(0, .ref 83), (1, .int v1), (2, .int v2), (3, .int v3), (4, .int v4)] [] I L := by
  unfold f_X8_innings
  refine zo_aload_n hC dX8_innings_0 rfl 0 rfl ?_
  refine zo_aload_n hC dX8_innings_1 rfl 0 rfl ?_
  refine zo_getZ hC fk8_174 at_83 dX8_innings_2 ?_
  refine zo_if_eq (tgt := 22) hC dX8_innings_5 (by decide) (fun c_1 => ?_) (fun c_1 => ?_)
  · exact Zf_X8_innings_22 hC v1 v2 v3 v4 I L
  · refine zo_iload hC dX8_innings_8 4 rfl ?_
    refine zo_iconst (v := 0) hC (by decide) dX8_innings_10 ?_
    refine zo_iconst (v := 2) hC (by decide) dX8_innings_11 ?_
    refine zo_callS_i hC [.int v4, .int 0, .int 2] [.ref 83] me_X8_in mlX8_83 sm_X8_in (fun p hp => T_X8_in v4 0 2 I L p hp) (by decide) rfl (Nat.le_of_ble_eq_true rfl) dX8_innings_12 rfl (fun r_2 => ?_)
    refine zo_if_eq (tgt := 22) hC dX8_innings_15 (by decide) (fun c_3 => ?_) (fun c_3 => ?_)
    · exact Zf_X8_innings_22 hC v1 v2 v3 v4 I L
    · refine zo_iconst (v := 1) hC (by decide) dX8_innings_18 ?_
      refine zo_goto (tgt := 23) hC dX8_innings_19 (by decide) ?_
      exact Zf_X8_innings_23 hC v1 v2 v3 v4 1 I L

theorem T_X8_innings (v1 : Int32) (v2 : Int32) (v3 : Int32) (v4 : Int32) (I : e_I) (L : e_L) (p : Int32 × e_I × e_L) (hp : f_X8_innings v1 v2 v3 v4 I L = some p) : Mt yX8_innings cX8_innings 9 (some .int) 13 gN [.ref 83, .int v1, .int v2, .int v3, .int v4] I L ((ph_iIL) p) := zo_enter hp (by decide) (Nat.le_of_ble_eq_true rfl) (fun X hC => Zf_X8_innings hC v1 v2 v3 v4 I L)
def f_X8_remembers_21 (k55 : e_I → Option (e_I)) : Nat → Int32 → e_I → Option (e_I)
  | 0, _, _ => none
  | n + 1, v1, I =>
    if v1 ≥ ((I 83 33) * 396) then (
      k55 I)
    else (
      e_as (e_ix (v1 + 396) 3960 = true) (
      e_as (e_ix v1 3960 = true) (
      e_let (e_ui I 96 v1.toNatClampNeg (I 96 (v1 + 396).toNatClampNeg)) (fun (I_4 : e_I) =>
      e_let (v1 + 1) (fun (x_5 : Int32) =>
      f_X8_remembers_21 k55 n x_5 I_4)))))
set_option maxRecDepth 100000 in
set_option maxHeartbeats 4000000 in
theorem Zf_X8_remembers_21 {X : e_X} (hC : e_C X cX8_remembers RX8 2 none 1 gN) (L : e_L) (k55 : e_I → Option (e_I)) (hk55 : ∀ (I : e_I), Zo X (ph_vI L) (k55 I) 55 [(0, .ref 83)] [] I L) : ∀ (n : Nat) (v1 : Int32) (I : e_I), Zo X (ph_vI L) (f_X8_remembers_21 k55 n v1 I) 21 [(0, .ref 83), (1, .int v1)] [] I L := by
  intro n
  induction n with
  | zero => intro v1 I p hp; cases hp
  | succ n ih =>
    intro v1 I
    unfold f_X8_remembers_21
    refine zo_iload_n hC dX8_remembers_21 rfl 1 rfl ?_
    refine zo_aload_n hC dX8_remembers_22 rfl 0 rfl ?_
    refine zo_getI hC fk8_178 at_83 dX8_remembers_23 ?_
    refine zo_sipush (v := 396) hC (by decide) dX8_remembers_26 ?_
    refine zo_imul hC dX8_remembers_29 ?_
    refine zo_icmp_ge (tgt := 55) hC dX8_remembers_30 (by decide) (fun c_1 => ?_) (fun c_1 => ?_)
    · refine zo_sub [0] (lv' := [(0, .ref 83)]) rfl ?_
      exact hk55 I
    · refine zo_aload_n hC dX8_remembers_33 rfl 0 rfl ?_
      refine zo_getR hC (r := 96) fk8_51 (by decide) gr_83_34 at_83 dX8_remembers_34 ?_
      refine zo_iload_n hC dX8_remembers_37 rfl 1 rfl ?_
      refine zo_aload_n hC dX8_remembers_38 rfl 0 rfl ?_
      refine zo_getR hC (r := 96) fk8_51 (by decide) gr_83_34 at_83 dX8_remembers_39 ?_
      refine zo_iload_n hC dX8_remembers_42 rfl 1 rfl ?_
      refine zo_sipush (v := 396) hC (by decide) dX8_remembers_43 ?_
      refine zo_iadd hC dX8_remembers_46 ?_
      refine zo_as (fun h_2 => ?_)
      refine zo_iald hC ar_96 (e_ix_vp h_2) dX8_remembers_47 ?_
      refine zo_as (fun h_3 => ?_)
      refine zo_iast hC ar_96 (e_ix_vp h_3) dX8_remembers_48 ?_
      refine zo_topI (fun I_4 => ?_)
      refine zo_iinc hC (x := v1) (fun x_5 => [(1, .int x_5), (0, .ref 83)]) dX8_remembers_49 1 rfl (by rfl) (by decide) (fun _ => rfl) (fun x_5 => ?_)
      refine zo_goto (tgt := 21) hC dX8_remembers_52 (by decide) ?_
      refine zo_sub [1, 0] (lv' := [(0, .ref 83), (1, .int x_5)]) rfl ?_
      exact ih x_5 I_4

def f_X8_remembers_55 (I : e_I) : Option (e_I) :=
  e_b1 (f_X8_lays 96 85 ((396 : Int32) * (I 83 33)) 0 396 I) (fun (I_1 : e_I) =>
  e_let (e_ui I_1 83 33 ((I_1 83 33) + 1)) (fun (I_2 : e_I) =>
  some I_2))
set_option maxRecDepth 100000 in
set_option maxHeartbeats 4000000 in
theorem Zf_X8_remembers_55 {X : e_X} (hC : e_C X cX8_remembers RX8 2 none 1 gN) (L : e_L) (I : e_I) : Zo X (ph_vI L) (f_X8_remembers_55 I) 55 [(0, .ref 83)] [] I L := by
  unfold f_X8_remembers_55
  refine zo_aload_n hC dX8_remembers_55 rfl 0 rfl ?_
  refine zo_getR hC (r := 96) fk8_51 (by decide) gr_83_34 at_83 dX8_remembers_56 ?_
  refine zo_sipush (v := 396) hC (by decide) dX8_remembers_59 ?_
  refine zo_aload_n hC dX8_remembers_62 rfl 0 rfl ?_
  refine zo_getI hC fk8_178 at_83 dX8_remembers_63 ?_
  refine zo_imul hC dX8_remembers_66 ?_
  refine zo_aload_n hC dX8_remembers_67 rfl 0 rfl ?_
  refine zo_getR hC (r := 85) fk8_17 (by decide) gr_83_7 at_83 dX8_remembers_68 ?_
  refine zo_iconst (v := 0) hC (by decide) dX8_remembers_71 ?_
  refine zo_sipush (v := 396) hC (by decide) dX8_remembers_72 ?_
  refine zo_callS_vI hC [.ref 96, .int ((396 : Int32) * (I 83 33)), .ref 85, .int 0, .int 396] [] me_X8_lays mlX8_181 sm_X8_lays (fun p hp => T_X8_lays 96 ir_96 85 ir_85 ((396 : Int32) * (I 83 33)) 0 396 I L p hp) (by decide) rfl (Nat.le_of_ble_eq_true rfl) dX8_remembers_75 rfl (fun I_1 => ?_)
  refine zo_aload_n hC dX8_remembers_78 rfl 0 rfl ?_
  refine zo_dup hC rfl dX8_remembers_79 ?_
  refine zo_getI hC fk8_178 at_83 dX8_remembers_80 ?_
  refine zo_iconst (v := 1) hC (by decide) dX8_remembers_83 ?_
  refine zo_iadd hC dX8_remembers_84 ?_
  refine zo_putI hC fk8_178 ff8_33 at_83 dX8_remembers_85 ?_
  refine zo_topI (fun I_2 => ?_)
  exact zo_vret hC rfl dX8_remembers_88

def f_X8_remembers (I : e_I) : Option (e_I) :=
  if (I 83 33) ≠ 10 then (
    f_X8_remembers_55 I)
  else (
    e_let (e_ui I 83 33 ((I 83 33) - 1)) (fun (I_2 : e_I) =>
    f_X8_remembers_21 (fun (I_3 : e_I) =>
      f_X8_remembers_55 I_3) e_FU 0 I_2))
set_option maxRecDepth 100000 in
set_option maxHeartbeats 4000000 in
theorem Zf_X8_remembers {X : e_X} (hC : e_C X cX8_remembers RX8 2 none 1 gN) (I : e_I) (L : e_L) : Zo X (ph_vI L) (f_X8_remembers I) 0 [(0, .ref 83)] [] I L := by
  unfold f_X8_remembers
  refine zo_aload_n hC dX8_remembers_0 rfl 0 rfl ?_
  refine zo_getI hC fk8_178 at_83 dX8_remembers_1 ?_
  refine zo_bipush (v := 10) hC (by decide) dX8_remembers_4 ?_
  refine zo_icmp_ne (tgt := 55) hC dX8_remembers_6 (by decide) (fun c_1 => ?_) (fun c_1 => ?_)
  · exact Zf_X8_remembers_55 hC L I
  · refine zo_aload_n hC dX8_remembers_9 rfl 0 rfl ?_
    refine zo_dup hC rfl dX8_remembers_10 ?_
    refine zo_getI hC fk8_178 at_83 dX8_remembers_11 ?_
    refine zo_iconst (v := 1) hC (by decide) dX8_remembers_14 ?_
    refine zo_isub hC dX8_remembers_15 ?_
    refine zo_putI hC fk8_178 ff8_33 at_83 dX8_remembers_16 ?_
    refine zo_topI (fun I_2 => ?_)
    refine zo_iconst (v := 0) hC (by decide) dX8_remembers_19 ?_
    refine zo_istore_n (lv' := [(1, .int 0), (0, .ref 83)]) hC dX8_remembers_20 rfl (by decide) rfl ?_
    refine zo_sub [1, 0] (lv' := [(0, .ref 83), (1, .int 0)]) rfl ?_
    refine Zf_X8_remembers_21 hC L _ (fun I_3 => ?_) e_FU 0 I_2
    · exact Zf_X8_remembers_55 hC L I_3

theorem T_X8_remembers (I : e_I) (L : e_L) (p : e_I) (hp : f_X8_remembers I = some p) : Mt yX8_remembers cX8_remembers 2 none 1 gN [.ref 83] I L ((ph_vI L) p) := zo_enter hp (by decide) (Nat.le_of_ble_eq_true rfl) (fun X hC => Zf_X8_remembers hC I L)
def f_X8_event_61 (v1 : Int32) (s0 : Int32) (I : e_I) : Option (Int32 × e_I) :=
  e_b2 (f_X8_isRefused s0 I) (fun (r_1 : Int32) (I_2 : e_I) =>
  if r_1 = 0 then (
    e_b1 (f_X8_remembers I_2) (fun (I_4 : e_I) =>
    e_b2 (f_X8_happens v1 I_4) (fun (r_5 : Int32) (I_6 : e_I) =>
    some (r_5, I_6))))
  else (
    some ((-1), I_2)))
set_option maxRecDepth 100000 in
set_option maxHeartbeats 4000000 in
theorem Zf_X8_event_61 {X : e_X} (hC : e_C X cX8_event RX8 3 (some .int) 4 gN) (L : e_L) (v1 : Int32) (s0 : Int32) (I : e_I) : Zo X (ph_iI L) (f_X8_event_61 v1 s0 I) 61 [(0, .ref 83), (1, .int v1)] [.int s0, .ref 83] I L := by
  unfold f_X8_event_61
  refine zo_callV_iI hC (ci := 8) [.int s0] [] me_X8_isRefused mlX8_162 im_X8_isRefused se_X8_isRefused rfl (by decide) at_83 (fun p hp => T_X8_isRefused s0 I L p hp) (by decide) rfl (Nat.le_of_ble_eq_true rfl) dX8_event_61 rfl (fun r_1 I_2 => ?_)
  refine zo_if_eq (tgt := 69) hC dX8_event_64 (by decide) (fun c_3 => ?_) (fun c_3 => ?_)
  · refine zo_aload_n hC dX8_event_69 rfl 0 rfl ?_
    refine zo_callV_vI hC (ci := 8) [] [] me_X8_remembers mlX8_349 im_X8_remembers se_X8_remembers rfl (by decide) at_83 (fun p hp => T_X8_remembers I_2 L p hp) (by decide) rfl (Nat.le_of_ble_eq_true rfl) dX8_event_70 rfl (fun I_4 => ?_)
    refine zo_aload_n hC dX8_event_73 rfl 0 rfl ?_
    refine zo_iload_n hC dX8_event_74 rfl 1 rfl ?_
    refine zo_callV_iI hC (ci := 8) [.int v1] [] me_X8_happens mlX8_342 im_X8_happens se_X8_happens rfl (by decide) at_83 (fun p hp => T_X8_happens v1 I_4 L p hp) (by decide) rfl (Nat.le_of_ble_eq_true rfl) dX8_event_75 rfl (fun r_5 I_6 => ?_)
    exact zo_iret hC rfl dX8_event_78
  · refine zo_iconst (v := (-1)) hC (by decide) dX8_event_67 ?_
    exact zo_iret hC rfl dX8_event_68

def f_X8_event_22 (v1 : Int32) (s0 : Int32) (I : e_I) : Option (Int32 × e_I) :=
  e_b1 (f_X8_unless s0) (fun (r_1 : Int32) =>
  if r_1 = 0 then (
    e_b1 (f_X8_canBe (I 85 (70 : Int32).toNatClampNeg) (I 85 (71 : Int32).toNatClampNeg) v1) (fun (r_3 : Int32) =>
    if r_3 = 0 then (
      f_X8_event_61 v1 5 I)
    else (
      f_X8_event_61 v1 0 I)))
  else (
    f_X8_event_61 v1 r_1 I))
set_option maxRecDepth 100000 in
set_option maxHeartbeats 4000000 in
theorem Zf_X8_event_22 {X : e_X} (hC : e_C X cX8_event RX8 3 (some .int) 4 gN) (L : e_L) (v1 : Int32) (s0 : Int32) (I : e_I) : Zo X (ph_iI L) (f_X8_event_22 v1 s0 I) 22 [(0, .ref 83), (1, .int v1)] [.int s0] I L := by
  unfold f_X8_event_22
  refine zo_callS_i hC [.int s0] [] me_X8_unless mlX8_189 sm_X8_unless (fun p hp => T_X8_unless s0 I L p hp) (by decide) rfl (Nat.le_of_ble_eq_true rfl) dX8_event_22 rfl (fun r_1 => ?_)
  refine zo_istore_n (lv' := [(2, .int r_1), (0, .ref 83), (1, .int v1)]) hC dX8_event_25 rfl (by decide) rfl ?_
  refine zo_aload_n hC dX8_event_26 rfl 1 rfl ?_
  refine zo_iload_n hC dX8_event_27 rfl 0 rfl ?_
  refine zo_if_eq (tgt := 35) hC dX8_event_28 (by decide) (fun c_2 => ?_) (fun c_2 => ?_)
  · refine zo_aload_n hC dX8_event_35 rfl 1 rfl ?_
    refine zo_getR hC (r := 85) fk8_17 (by decide) gr_83_7 at_83 dX8_event_36 ?_
    refine zo_bipush (v := 70) hC (by decide) dX8_event_39 ?_
    refine zo_iald hC ar_85 (e_ix_vp (by decide)) dX8_event_41 ?_
    refine zo_aload_n hC dX8_event_42 rfl 1 rfl ?_
    refine zo_getR hC (r := 85) fk8_17 (by decide) gr_83_7 at_83 dX8_event_43 ?_
    refine zo_bipush (v := 71) hC (by decide) dX8_event_46 ?_
    refine zo_iald hC ar_85 (e_ix_vp (by decide)) dX8_event_48 ?_
    refine zo_iload_n hC dX8_event_49 rfl 2 rfl ?_
    refine zo_callS_i hC [.int (I 85 (70 : Int32).toNatClampNeg), .int (I 85 (71 : Int32).toNatClampNeg), .int v1] [.ref 83] me_X8_canBe mlX8_226 sm_X8_canBe (fun p hp => T_X8_canBe (I 85 (70 : Int32).toNatClampNeg) (I 85 (71 : Int32).toNatClampNeg) v1 I L p hp) (by decide) rfl (Nat.le_of_ble_eq_true rfl) dX8_event_50 rfl (fun r_3 => ?_)
    refine zo_if_eq (tgt := 60) hC dX8_event_53 (by decide) (fun c_4 => ?_) (fun c_4 => ?_)
    · refine zo_iconst (v := 5) hC (by decide) dX8_event_60 ?_
      refine zo_sub [1, 2] (lv' := [(0, .ref 83), (1, .int v1)]) rfl ?_
      exact Zf_X8_event_61 hC L v1 5 I
    · refine zo_iconst (v := 0) hC (by decide) dX8_event_56 ?_
      refine zo_goto (tgt := 61) hC dX8_event_57 (by decide) ?_
      refine zo_sub [1, 2] (lv' := [(0, .ref 83), (1, .int v1)]) rfl ?_
      exact Zf_X8_event_61 hC L v1 0 I
  · refine zo_iload_n hC dX8_event_31 rfl 0 rfl ?_
    refine zo_goto (tgt := 61) hC dX8_event_32 (by decide) ?_
    refine zo_sub [1, 2] (lv' := [(0, .ref 83), (1, .int v1)]) rfl ?_
    exact Zf_X8_event_61 hC L v1 r_1 I

def f_X8_event_21 (v1 : Int32) (I : e_I) : Option (Int32 × e_I) :=
  f_X8_event_22 v1 0 I
set_option maxRecDepth 100000 in
set_option maxHeartbeats 4000000 in
theorem Zf_X8_event_21 {X : e_X} (hC : e_C X cX8_event RX8 3 (some .int) 4 gN) (L : e_L) (v1 : Int32) (I : e_I) : Zo X (ph_iI L) (f_X8_event_21 v1 I) 21 [(0, .ref 83), (1, .int v1)] [] I L := by
  unfold f_X8_event_21
  refine zo_iconst (v := 0) hC (by decide) dX8_event_21 ?_
  exact Zf_X8_event_22 hC L v1 0 I

def f_X8_event (v1 : Int32) (I : e_I) : Option (Int32 × e_I) :=
  if (I 83 6) = 0 then (
    f_X8_event_21 v1 I)
  else (
    e_b1 (f_X8_in v1 0 8) (fun (r_2 : Int32) =>
    if r_2 = 0 then (
      f_X8_event_21 v1 I)
    else (
      f_X8_event_22 v1 1 I)))
set_option maxRecDepth 100000 in
set_option maxHeartbeats 4000000 in
theorem Zf_X8_event {X : e_X} (hC : e_C X cX8_event RX8 3 (some .int) 4 gN) (v1 : Int32) (I : e_I) (L : e_L) : Zo X (ph_iI L) (f_X8_event v1 I) 0 [(0, .ref 83), (1, .int v1)] [] I L := by
  unfold f_X8_event
  refine zo_aload_n hC dX8_event_0 rfl 0 rfl ?_
  refine zo_getZ hC fk8_174 at_83 dX8_event_1 ?_
  refine zo_if_eq (tgt := 21) hC dX8_event_4 (by decide) (fun c_1 => ?_) (fun c_1 => ?_)
  · exact Zf_X8_event_21 hC L v1 I
  · refine zo_iload_n hC dX8_event_7 rfl 1 rfl ?_
    refine zo_iconst (v := 0) hC (by decide) dX8_event_8 ?_
    refine zo_bipush (v := 8) hC (by decide) dX8_event_9 ?_
    refine zo_callS_i hC [.int v1, .int 0, .int 8] [] me_X8_in mlX8_83 sm_X8_in (fun p hp => T_X8_in v1 0 8 I L p hp) (by decide) rfl (Nat.le_of_ble_eq_true rfl) dX8_event_11 rfl (fun r_2 => ?_)
    refine zo_if_eq (tgt := 21) hC dX8_event_14 (by decide) (fun c_3 => ?_) (fun c_3 => ?_)
    · exact Zf_X8_event_21 hC L v1 I
    · refine zo_iconst (v := 1) hC (by decide) dX8_event_17 ?_
      refine zo_goto (tgt := 22) hC dX8_event_18 (by decide) ?_
      exact Zf_X8_event_22 hC L v1 1 I

theorem T_X8_event (v1 : Int32) (I : e_I) (L : e_L) (p : Int32 × e_I) (hp : f_X8_event v1 I = some p) : Mt yX8_event cX8_event 3 (some .int) 4 gN [.ref 83, .int v1] I L ((ph_iI L) p) := zo_enter hp (by decide) (Nat.le_of_ble_eq_true rfl) (fun X hC => Zf_X8_event hC v1 I L)
def f_X8_play_58 (v2 : Int32) (v3 : Int32) (k80 : Int32 → e_I → e_L → Option (Int32 × e_I × e_L)) : Nat → Int32 → Int32 → e_I → e_L → Option (Int32 × e_I × e_L)
  | 0, _, _, _, _ => none
  | n + 1, v4, v5, I, L =>
    if v5 ≥ v2 then (
      k80 v4 I L)
    else (
      e_b3 (f_X8_turn v3 I L) (fun (r_2 : Int32) (I_3 : e_I) (L_4 : e_L) =>
      e_let (v4 + r_2) (fun (x_5 : Int32) =>
      e_let (v5 + 1) (fun (x_6 : Int32) =>
      f_X8_play_58 v2 v3 k80 n x_5 x_6 I_3 L_4))))
set_option maxRecDepth 100000 in
set_option maxHeartbeats 4000000 in
theorem Zf_X8_play_58 {X : e_X} (hC : e_C X cX8_play RX8 6 (some .int) 13 gN) (v2 : Int32) (v3 : Int32) (k80 : Int32 → e_I → e_L → Option (Int32 × e_I × e_L)) (hk80 : ∀ (v4 : Int32) (I : e_I) (L : e_L), Zo X (ph_iIL) (k80 v4 I L) 80 [(4, .int v4)] [] I L) : ∀ (n : Nat) (v4 : Int32) (v5 : Int32) (I : e_I) (L : e_L), Zo X (ph_iIL) (f_X8_play_58 v2 v3 k80 n v4 v5 I L) 58 [(0, .ref 83), (2, .int v2), (3, .int v3), (4, .int v4), (5, .int v5)] [] I L := by
  intro n
  induction n with
  | zero => intro v4 v5 I L p hp; cases hp
  | succ n ih =>
    intro v4 v5 I L
    unfold f_X8_play_58
    refine zo_iload hC dX8_play_58 4 rfl ?_
    refine zo_iload_n hC dX8_play_60 rfl 1 rfl ?_
    refine zo_icmp_ge (tgt := 80) hC dX8_play_61 (by decide) (fun c_1 => ?_) (fun c_1 => ?_)
    · refine zo_sub [3] (lv' := [(4, .int v4)]) rfl ?_
      exact hk80 v4 I L
    · refine zo_iload hC dX8_play_64 3 rfl ?_
      refine zo_aload_n hC dX8_play_66 rfl 0 rfl ?_
      refine zo_iload_n hC dX8_play_67 rfl 2 rfl ?_
      refine zo_callV_iIL hC (ci := 8) [.int v3] [.int v4] me_X8_turn mlX8_346 im_X8_turn se_X8_turn rfl (by decide) at_83 (fun p hp => T_X8_turn v3 I L p hp) (by decide) rfl (Nat.le_of_ble_eq_true rfl) dX8_play_68 rfl (fun r_2 I_3 L_4 => ?_)
      refine zo_iadd hC dX8_play_71 ?_
      refine zo_topi (fun x_5 => ?_)
      refine zo_istore (lv' := [(4, .int x_5), (0, .ref 83), (2, .int v2), (3, .int v3), (5, .int v5)]) hC dX8_play_72 (by decide) rfl ?_
      refine zo_iinc hC (x := v5) (fun x_6 => [(5, .int x_6), (4, .int x_5), (0, .ref 83), (2, .int v2), (3, .int v3)]) dX8_play_74 4 rfl (by rfl) (by decide) (fun _ => rfl) (fun x_6 => ?_)
      refine zo_goto (tgt := 58) hC dX8_play_77 (by decide) ?_
      refine zo_sub [2, 3, 4, 1, 0] (lv' := [(0, .ref 83), (2, .int v2), (3, .int v3), (4, .int x_5), (5, .int x_6)]) rfl ?_
      exact ih x_5 x_6 I_3 L_4

def f_X8_play_31 (v1 : Int32) (v2 : Int32) (v3 : Int32) (s0 : Int32) (s1 : Int32) (I : e_I) (L : e_L) : Option (Int32 × e_I × e_L) :=
  e_b1 (f_X8_unless_ s1 s0) (fun (r_1 : Int32) =>
  e_b2 (f_X8_isRefused r_1 I) (fun (r_2 : Int32) (I_3 : e_I) =>
  if r_2 = 0 then (
    e_b1 (f_X8_remembers I_3) (fun (I_5 : e_I) =>
    e_let (e_ul L 83 31 v1.toInt64) (fun (L_6 : e_L) =>
    f_X8_play_58 v2 v3 (fun (v4_7 : Int32) (I_8 : e_I) (L_9 : e_L) =>
      some (v4_7, I_8, L_9)) e_FU 0 0 I_5 L_6)))
  else (
    some ((-1), I_3, L))))
set_option maxRecDepth 100000 in
set_option maxHeartbeats 4000000 in
theorem Zf_X8_play_31 {X : e_X} (hC : e_C X cX8_play RX8 6 (some .int) 13 gN) (v1 : Int32) (v2 : Int32) (v3 : Int32) (s0 : Int32) (s1 : Int32) (I : e_I) (L : e_L) : Zo X (ph_iIL) (f_X8_play_31 v1 v2 v3 s0 s1 I L) 31 [(0, .ref 83), (1, .int v1), (2, .int v2), (3, .int v3)] [.int s0, .int s1, .ref 83] I L := by
  unfold f_X8_play_31
  refine zo_callS_i hC [.int s1, .int s0] [.ref 83] me_X8_unless_ mlX8_158 sm_X8_unless_ (fun p hp => T_X8_unless_ s1 s0 I L p hp) (by decide) rfl (Nat.le_of_ble_eq_true rfl) dX8_play_31 rfl (fun r_1 => ?_)
  refine zo_callV_iI hC (ci := 8) [.int r_1] [] me_X8_isRefused mlX8_162 im_X8_isRefused se_X8_isRefused rfl (by decide) at_83 (fun p hp => T_X8_isRefused r_1 I L p hp) (by decide) rfl (Nat.le_of_ble_eq_true rfl) dX8_play_34 rfl (fun r_2 I_3 => ?_)
  refine zo_if_eq (tgt := 42) hC dX8_play_37 (by decide) (fun c_4 => ?_) (fun c_4 => ?_)
  · refine zo_aload_n hC dX8_play_42 rfl 0 rfl ?_
    refine zo_callV_vI hC (ci := 8) [] [] me_X8_remembers mlX8_349 im_X8_remembers se_X8_remembers rfl (by decide) at_83 (fun p hp => T_X8_remembers I_3 L p hp) (by decide) rfl (Nat.le_of_ble_eq_true rfl) dX8_play_43 rfl (fun I_5 => ?_)
    refine zo_aload_n hC dX8_play_46 rfl 0 rfl ?_
    refine zo_iload_n hC dX8_play_47 rfl 1 rfl ?_
    refine zo_i2l hC dX8_play_48 ?_
    refine zo_putL hC fk8_329 ff8_31 at_83 dX8_play_49 ?_
    refine zo_topL (fun L_6 => ?_)
    refine zo_iconst (v := 0) hC (by decide) dX8_play_52 ?_
    refine zo_istore (lv' := [(4, .int 0), (0, .ref 83), (1, .int v1), (2, .int v2), (3, .int v3)]) hC dX8_play_53 (by decide) rfl ?_
    refine zo_iconst (v := 0) hC (by decide) dX8_play_55 ?_
    refine zo_istore (lv' := [(5, .int 0), (4, .int 0), (0, .ref 83), (1, .int v1), (2, .int v2), (3, .int v3)]) hC dX8_play_56 (by decide) rfl ?_
    refine zo_sub [2, 4, 5, 1, 0] (lv' := [(0, .ref 83), (2, .int v2), (3, .int v3), (4, .int 0), (5, .int 0)]) rfl ?_
    refine Zf_X8_play_58 hC v2 v3 _ (fun v4_7 I_8 L_9 => ?_) e_FU 0 0 I_5 L_6
    · refine zo_iload hC dX8_play_80 0 rfl ?_
      exact zo_iret hC rfl dX8_play_82
  · refine zo_iconst (v := (-1)) hC (by decide) dX8_play_40 ?_
    exact zo_iret hC rfl dX8_play_41

def f_X8_play_30 (v1 : Int32) (v2 : Int32) (v3 : Int32) (s0 : Int32) (I : e_I) (L : e_L) : Option (Int32 × e_I × e_L) :=
  f_X8_play_31 v1 v2 v3 0 s0 I L
set_option maxRecDepth 100000 in
set_option maxHeartbeats 4000000 in
theorem Zf_X8_play_30 {X : e_X} (hC : e_C X cX8_play RX8 6 (some .int) 13 gN) (v1 : Int32) (v2 : Int32) (v3 : Int32) (s0 : Int32) (I : e_I) (L : e_L) : Zo X (ph_iIL) (f_X8_play_30 v1 v2 v3 s0 I L) 30 [(0, .ref 83), (1, .int v1), (2, .int v2), (3, .int v3)] [.int s0, .ref 83] I L := by
  unfold f_X8_play_30
  refine zo_iconst (v := 0) hC (by decide) dX8_play_30 ?_
  exact Zf_X8_play_31 hC v1 v2 v3 0 s0 I L

def f_X8_play (v1 : Int32) (v2 : Int32) (v3 : Int32) (I : e_I) (L : e_L) : Option (Int32 × e_I × e_L) :=
  e_b1 (f_X8_in v1 1 2147483646) (fun (r_1 : Int32) =>
  if r_1 = 0 then (
    f_X8_play_30 v1 v2 v3 (I 83 6) I L)
  else (
    e_b1 (f_X8_in v2 1 20) (fun (r_3 : Int32) =>
    if r_3 = 0 then (
      f_X8_play_30 v1 v2 v3 (I 83 6) I L)
    else (
      f_X8_play_31 v1 v2 v3 1 (I 83 6) I L))))
set_option maxRecDepth 100000 in
set_option maxHeartbeats 4000000 in
theorem Zf_X8_play {X : e_X} (hC : e_C X cX8_play RX8 6 (some .int) 13 gN) (v1 : Int32) (v2 : Int32) (v3 : Int32) (I : e_I) (L : e_L) : Zo X (ph_iIL) (f_X8_play v1 v2 v3 I L) 0 [(0, .ref 83), (1, .int v1), (2, .int v2), (3, .int v3)] [] I L := by
  unfold f_X8_play
  refine zo_aload_n hC dX8_play_0 rfl 0 rfl ?_
  refine zo_aload_n hC dX8_play_1 rfl 0 rfl ?_
  refine zo_getZ hC fk8_174 at_83 dX8_play_2 ?_
  refine zo_iload_n hC dX8_play_5 rfl 1 rfl ?_
  refine zo_iconst (v := 1) hC (by decide) dX8_play_6 ?_
  refine zo_ldcw hC cnX8_345 dX8_play_7 ?_
  refine zo_callS_i hC [.int v1, .int 1, .int 2147483646] [.int (I 83 6), .ref 83] me_X8_in mlX8_83 sm_X8_in (fun p hp => T_X8_in v1 1 2147483646 I L p hp) (by decide) rfl (Nat.le_of_ble_eq_true rfl) dX8_play_10 rfl (fun r_1 => ?_)
  refine zo_if_eq (tgt := 30) hC dX8_play_13 (by decide) (fun c_2 => ?_) (fun c_2 => ?_)
  · exact Zf_X8_play_30 hC v1 v2 v3 (I 83 6) I L
  · refine zo_iload_n hC dX8_play_16 rfl 2 rfl ?_
    refine zo_iconst (v := 1) hC (by decide) dX8_play_17 ?_
    refine zo_bipush (v := 20) hC (by decide) dX8_play_18 ?_
    refine zo_callS_i hC [.int v2, .int 1, .int 20] [.int (I 83 6), .ref 83] me_X8_in mlX8_83 sm_X8_in (fun p hp => T_X8_in v2 1 20 I L p hp) (by decide) rfl (Nat.le_of_ble_eq_true rfl) dX8_play_20 rfl (fun r_3 => ?_)
    refine zo_if_eq (tgt := 30) hC dX8_play_23 (by decide) (fun c_4 => ?_) (fun c_4 => ?_)
    · exact Zf_X8_play_30 hC v1 v2 v3 (I 83 6) I L
    · refine zo_iconst (v := 1) hC (by decide) dX8_play_26 ?_
      refine zo_goto (tgt := 31) hC dX8_play_27 (by decide) ?_
      exact Zf_X8_play_31 hC v1 v2 v3 1 (I 83 6) I L

theorem T_X8_play (v1 : Int32) (v2 : Int32) (v3 : Int32) (I : e_I) (L : e_L) (p : Int32 × e_I × e_L) (hp : f_X8_play v1 v2 v3 I L = some p) : Mt yX8_play cX8_play 6 (some .int) 13 gN [.ref 83, .int v1, .int v2, .int v3] I L ((ph_iIL) p) := zo_enter hp (by decide) (Nat.le_of_ble_eq_true rfl) (fun X hC => Zf_X8_play hC v1 v2 v3 I L)
def f_X8_relieve (I : e_I) : Option (Int32 × e_I) :=
  e_b1 (f_X8_unless (I 83 6)) (fun (r_1 : Int32) =>
  e_b2 (f_X8_isRefused r_1 I) (fun (r_2 : Int32) (I_3 : e_I) =>
  if r_2 = 0 then (
    e_b1 (f_X8_remembers I_3) (fun (I_5 : e_I) =>
    e_let (I_5 85 (73 : Int32).toNatClampNeg) (fun (x_6 : Int32) =>
    e_let (e_ui I_5 85 (73 : Int32).toNatClampNeg 0) (fun (I_7 : e_I) =>
    some (x_6, I_7)))))
  else (
    some ((-1), I_3))))
set_option maxRecDepth 100000 in
set_option maxHeartbeats 4000000 in
theorem Zf_X8_relieve {X : e_X} (hC : e_C X cX8_relieve RX8 2 (some .int) 2 gN) (I : e_I) (L : e_L) : Zo X (ph_iI L) (f_X8_relieve I) 0 [(0, .ref 83)] [] I L := by
  unfold f_X8_relieve
  refine zo_aload_n hC dX8_relieve_0 rfl 0 rfl ?_
  refine zo_aload_n hC dX8_relieve_1 rfl 0 rfl ?_
  refine zo_getZ hC fk8_174 at_83 dX8_relieve_2 ?_
  refine zo_callS_i hC [.int (I 83 6)] [.ref 83] me_X8_unless mlX8_189 sm_X8_unless (fun p hp => T_X8_unless (I 83 6) I L p hp) (by decide) rfl (Nat.le_of_ble_eq_true rfl) dX8_relieve_5 rfl (fun r_1 => ?_)
  refine zo_callV_iI hC (ci := 8) [.int r_1] [] me_X8_isRefused mlX8_162 im_X8_isRefused se_X8_isRefused rfl (by decide) at_83 (fun p hp => T_X8_isRefused r_1 I L p hp) (by decide) rfl (Nat.le_of_ble_eq_true rfl) dX8_relieve_8 rfl (fun r_2 I_3 => ?_)
  refine zo_if_eq (tgt := 16) hC dX8_relieve_11 (by decide) (fun c_4 => ?_) (fun c_4 => ?_)
  · refine zo_aload_n hC dX8_relieve_16 rfl 0 rfl ?_
    refine zo_callV_vI hC (ci := 8) [] [] me_X8_remembers mlX8_349 im_X8_remembers se_X8_remembers rfl (by decide) at_83 (fun p hp => T_X8_remembers I_3 L p hp) (by decide) rfl (Nat.le_of_ble_eq_true rfl) dX8_relieve_17 rfl (fun I_5 => ?_)
    refine zo_aload_n hC dX8_relieve_20 rfl 0 rfl ?_
    refine zo_getR hC (r := 85) fk8_17 (by decide) gr_83_7 at_83 dX8_relieve_21 ?_
    refine zo_bipush (v := 73) hC (by decide) dX8_relieve_24 ?_
    refine zo_iald hC ar_85 (e_ix_vp (by decide)) dX8_relieve_26 ?_
    refine zo_topi (fun x_6 => ?_)
    refine zo_istore_n (lv' := [(1, .int x_6), (0, .ref 83)]) hC dX8_relieve_27 rfl (by decide) rfl ?_
    refine zo_aload_n hC dX8_relieve_28 rfl 1 rfl ?_
    refine zo_getR hC (r := 85) fk8_17 (by decide) gr_83_7 at_83 dX8_relieve_29 ?_
    refine zo_bipush (v := 73) hC (by decide) dX8_relieve_32 ?_
    refine zo_iconst (v := 0) hC (by decide) dX8_relieve_34 ?_
    refine zo_iast hC ar_85 (e_ix_vp (by decide)) dX8_relieve_35 ?_
    refine zo_topI (fun I_7 => ?_)
    refine zo_iload_n hC dX8_relieve_36 rfl 0 rfl ?_
    exact zo_iret hC rfl dX8_relieve_37
  · refine zo_iconst (v := (-1)) hC (by decide) dX8_relieve_14 ?_
    exact zo_iret hC rfl dX8_relieve_15

theorem T_X8_relieve (I : e_I) (L : e_L) (p : Int32 × e_I) (hp : f_X8_relieve I = some p) : Mt yX8_relieve cX8_relieve 2 (some .int) 2 gN [.ref 83] I L ((ph_iI L) p) := zo_enter hp (by decide) (Nat.le_of_ble_eq_true rfl) (fun X hC => Zf_X8_relieve hC I L)
def f_X8_begin (I : e_I) : Option (Int32 × e_I) :=
  e_b1 (f_X8_unless (I 83 6)) (fun (r_1 : Int32) =>
  e_b2 (f_X8_isRefused r_1 I) (fun (r_2 : Int32) (I_3 : e_I) =>
  if r_2 = 0 then (
    e_b1 (f_X8_remembers I_3) (fun (I_5 : e_I) =>
    e_let (I_5 85 (74 : Int32).toNatClampNeg) (fun (x_6 : Int32) =>
    e_b1 (f_X8_begins 85 I_5) (fun (I_7 : e_I) =>
    some (x_6, I_7)))))
  else (
    some ((-1), I_3))))
set_option maxRecDepth 100000 in
set_option maxHeartbeats 4000000 in
theorem Zf_X8_begin {X : e_X} (hC : e_C X cX8_begin RX8 2 (some .int) 2 gN) (I : e_I) (L : e_L) : Zo X (ph_iI L) (f_X8_begin I) 0 [(0, .ref 83)] [] I L := by
  unfold f_X8_begin
  refine zo_aload_n hC dX8_begin_0 rfl 0 rfl ?_
  refine zo_aload_n hC dX8_begin_1 rfl 0 rfl ?_
  refine zo_getZ hC fk8_174 at_83 dX8_begin_2 ?_
  refine zo_callS_i hC [.int (I 83 6)] [.ref 83] me_X8_unless mlX8_189 sm_X8_unless (fun p hp => T_X8_unless (I 83 6) I L p hp) (by decide) rfl (Nat.le_of_ble_eq_true rfl) dX8_begin_5 rfl (fun r_1 => ?_)
  refine zo_callV_iI hC (ci := 8) [.int r_1] [] me_X8_isRefused mlX8_162 im_X8_isRefused se_X8_isRefused rfl (by decide) at_83 (fun p hp => T_X8_isRefused r_1 I L p hp) (by decide) rfl (Nat.le_of_ble_eq_true rfl) dX8_begin_8 rfl (fun r_2 I_3 => ?_)
  refine zo_if_eq (tgt := 16) hC dX8_begin_11 (by decide) (fun c_4 => ?_) (fun c_4 => ?_)
  · refine zo_aload_n hC dX8_begin_16 rfl 0 rfl ?_
    refine zo_callV_vI hC (ci := 8) [] [] me_X8_remembers mlX8_349 im_X8_remembers se_X8_remembers rfl (by decide) at_83 (fun p hp => T_X8_remembers I_3 L p hp) (by decide) rfl (Nat.le_of_ble_eq_true rfl) dX8_begin_17 rfl (fun I_5 => ?_)
    refine zo_aload_n hC dX8_begin_20 rfl 0 rfl ?_
    refine zo_getR hC (r := 85) fk8_17 (by decide) gr_83_7 at_83 dX8_begin_21 ?_
    refine zo_bipush (v := 74) hC (by decide) dX8_begin_24 ?_
    refine zo_iald hC ar_85 (e_ix_vp (by decide)) dX8_begin_26 ?_
    refine zo_topi (fun x_6 => ?_)
    refine zo_istore_n (lv' := [(1, .int x_6), (0, .ref 83)]) hC dX8_begin_27 rfl (by decide) rfl ?_
    refine zo_aload_n hC dX8_begin_28 rfl 1 rfl ?_
    refine zo_getR hC (r := 85) fk8_17 (by decide) gr_83_7 at_83 dX8_begin_29 ?_
    refine zo_callS_vI hC [.ref 85] [] me_X8_begins mlX8_185 sm_X8_begins (fun p hp => T_X8_begins 85 ir_85 I_5 L p hp) (by decide) rfl (Nat.le_of_ble_eq_true rfl) dX8_begin_32 rfl (fun I_7 => ?_)
    refine zo_iload_n hC dX8_begin_35 rfl 0 rfl ?_
    exact zo_iret hC rfl dX8_begin_36
  · refine zo_iconst (v := (-1)) hC (by decide) dX8_begin_14 ?_
    exact zo_iret hC rfl dX8_begin_15

theorem T_X8_begin (I : e_I) (L : e_L) (p : Int32 × e_I) (hp : f_X8_begin I = some p) : Mt yX8_begin cX8_begin 2 (some .int) 2 gN [.ref 83] I L ((ph_iI L) p) := zo_enter hp (by decide) (Nat.le_of_ble_eq_true rfl) (fun X hC => Zf_X8_begin hC I L)
def f_X8_swap_31 (v1 : Int32) (v2 : Int32) (s0 : Int32) (I : e_I) : Option (Int32 × e_I) :=
  e_b2 (f_X8_isRefused s0 I) (fun (r_1 : Int32) (I_2 : e_I) =>
  if r_1 = 0 then (
    e_b1 (f_X8_remembers I_2) (fun (I_4 : e_I) =>
    e_b1 (f_X8_changes 85 ((60 : Int32) + v1) ((60 : Int32) + v2) I_4) (fun (I_5 : e_I) =>
    e_as (e_ix ((60 : Int32) + v1) 396 = true) (
    some ((I_5 85 ((60 : Int32) + v1).toNatClampNeg), I_5)))))
  else (
    some ((-1), I_2)))
set_option maxRecDepth 100000 in
set_option maxHeartbeats 4000000 in
theorem Zf_X8_swap_31 {X : e_X} (hC : e_C X cX8_swap RX8 3 (some .int) 2 gN) (L : e_L) (v1 : Int32) (v2 : Int32) (s0 : Int32) (I : e_I) : Zo X (ph_iI L) (f_X8_swap_31 v1 v2 s0 I) 31 [(0, .ref 83), (1, .int v1), (2, .int v2)] [.int s0, .ref 83] I L := by
  unfold f_X8_swap_31
  refine zo_callV_iI hC (ci := 8) [.int s0] [] me_X8_isRefused mlX8_162 im_X8_isRefused se_X8_isRefused rfl (by decide) at_83 (fun p hp => T_X8_isRefused s0 I L p hp) (by decide) rfl (Nat.le_of_ble_eq_true rfl) dX8_swap_31 rfl (fun r_1 I_2 => ?_)
  refine zo_if_eq (tgt := 39) hC dX8_swap_34 (by decide) (fun c_3 => ?_) (fun c_3 => ?_)
  · refine zo_aload_n hC dX8_swap_39 rfl 0 rfl ?_
    refine zo_callV_vI hC (ci := 8) [] [] me_X8_remembers mlX8_349 im_X8_remembers se_X8_remembers rfl (by decide) at_83 (fun p hp => T_X8_remembers I_2 L p hp) (by decide) rfl (Nat.le_of_ble_eq_true rfl) dX8_swap_40 rfl (fun I_4 => ?_)
    refine zo_aload_n hC dX8_swap_43 rfl 0 rfl ?_
    refine zo_aload_n hC dX8_swap_44 rfl 0 rfl ?_
    refine zo_getR hC (r := 85) fk8_17 (by decide) gr_83_7 at_83 dX8_swap_45 ?_
    refine zo_bipush (v := 60) hC (by decide) dX8_swap_48 ?_
    refine zo_iload_n hC dX8_swap_50 rfl 1 rfl ?_
    refine zo_iadd hC dX8_swap_51 ?_
    refine zo_bipush (v := 60) hC (by decide) dX8_swap_52 ?_
    refine zo_iload_n hC dX8_swap_54 rfl 2 rfl ?_
    refine zo_iadd hC dX8_swap_55 ?_
    refine zo_callV_vI hC (ci := 8) [.ref 85, .int ((60 : Int32) + v1), .int ((60 : Int32) + v2)] [] me_X8_changes mlX8_316 im_X8_changes se_X8_changes rfl (by decide) at_83 (fun p hp => T_X8_changes 85 ir_85 ((60 : Int32) + v1) ((60 : Int32) + v2) I_4 L p hp) (by decide) rfl (Nat.le_of_ble_eq_true rfl) dX8_swap_56 rfl (fun I_5 => ?_)
    refine zo_aload_n hC dX8_swap_59 rfl 0 rfl ?_
    refine zo_getR hC (r := 85) fk8_17 (by decide) gr_83_7 at_83 dX8_swap_60 ?_
    refine zo_bipush (v := 60) hC (by decide) dX8_swap_63 ?_
    refine zo_iload_n hC dX8_swap_65 rfl 1 rfl ?_
    refine zo_iadd hC dX8_swap_66 ?_
    refine zo_as (fun h_6 => ?_)
    refine zo_iald hC ar_85 (e_ix_vp h_6) dX8_swap_67 ?_
    exact zo_iret hC rfl dX8_swap_68
  · refine zo_iconst (v := (-1)) hC (by decide) dX8_swap_37 ?_
    exact zo_iret hC rfl dX8_swap_38

def f_X8_swap_17 (v1 : Int32) (v2 : Int32) (I : e_I) : Option (Int32 × e_I) :=
  f_X8_swap_31 v1 v2 1 I
set_option maxRecDepth 100000 in
set_option maxHeartbeats 4000000 in
theorem Zf_X8_swap_17 {X : e_X} (hC : e_C X cX8_swap RX8 3 (some .int) 2 gN) (L : e_L) (v1 : Int32) (v2 : Int32) (I : e_I) : Zo X (ph_iI L) (f_X8_swap_17 v1 v2 I) 17 [(0, .ref 83), (1, .int v1), (2, .int v2)] [.ref 83] I L := by
  unfold f_X8_swap_17
  refine zo_iconst (v := 1) hC (by decide) dX8_swap_17 ?_
  refine zo_goto (tgt := 31) hC dX8_swap_18 (by decide) ?_
  exact Zf_X8_swap_31 hC L v1 v2 1 I

def f_X8_swap (v1 : Int32) (v2 : Int32) (I : e_I) : Option (Int32 × e_I) :=
  e_b1 (f_X8_isBatter v1 I) (fun (r_1 : Int32) =>
  if r_1 = 0 then (
    f_X8_swap_17 v1 v2 I)
  else (
    e_b1 (f_X8_isBatter v2 I) (fun (r_3 : Int32) =>
    if r_3 ≠ 0 then (
      if v1 ≠ v2 then (
        f_X8_swap_31 v1 v2 0 I)
      else (
        f_X8_swap_31 v1 v2 5 I))
    else (
      f_X8_swap_17 v1 v2 I))))
set_option maxRecDepth 100000 in
set_option maxHeartbeats 4000000 in
theorem Zf_X8_swap {X : e_X} (hC : e_C X cX8_swap RX8 3 (some .int) 2 gN) (v1 : Int32) (v2 : Int32) (I : e_I) (L : e_L) : Zo X (ph_iI L) (f_X8_swap v1 v2 I) 0 [(0, .ref 83), (1, .int v1), (2, .int v2)] [] I L := by
  unfold f_X8_swap
  refine zo_aload_n hC dX8_swap_0 rfl 0 rfl ?_
  refine zo_aload_n hC dX8_swap_1 rfl 0 rfl ?_
  refine zo_iload_n hC dX8_swap_2 rfl 1 rfl ?_
  refine zo_callV_i hC (ci := 8) [.int v1] [.ref 83] me_X8_isBatter mlX8_192 im_X8_isBatter se_X8_isBatter rfl (by decide) at_83 (fun p hp => T_X8_isBatter v1 I L p hp) (by decide) rfl (Nat.le_of_ble_eq_true rfl) dX8_swap_3 rfl (fun r_1 => ?_)
  refine zo_if_eq (tgt := 17) hC dX8_swap_6 (by decide) (fun c_2 => ?_) (fun c_2 => ?_)
  · exact Zf_X8_swap_17 hC L v1 v2 I
  · refine zo_aload_n hC dX8_swap_9 rfl 0 rfl ?_
    refine zo_iload_n hC dX8_swap_10 rfl 2 rfl ?_
    refine zo_callV_i hC (ci := 8) [.int v2] [.ref 83] me_X8_isBatter mlX8_192 im_X8_isBatter se_X8_isBatter rfl (by decide) at_83 (fun p hp => T_X8_isBatter v2 I L p hp) (by decide) rfl (Nat.le_of_ble_eq_true rfl) dX8_swap_11 rfl (fun r_3 => ?_)
    refine zo_if_ne (tgt := 21) hC dX8_swap_14 (by decide) (fun c_4 => ?_) (fun c_4 => ?_)
    · refine zo_iload_n hC dX8_swap_21 rfl 1 rfl ?_
      refine zo_iload_n hC dX8_swap_22 rfl 2 rfl ?_
      refine zo_icmp_ne (tgt := 30) hC dX8_swap_23 (by decide) (fun c_5 => ?_) (fun c_5 => ?_)
      · refine zo_iconst (v := 0) hC (by decide) dX8_swap_30 ?_
        exact Zf_X8_swap_31 hC L v1 v2 0 I
      · refine zo_iconst (v := 5) hC (by decide) dX8_swap_26 ?_
        refine zo_goto (tgt := 31) hC dX8_swap_27 (by decide) ?_
        exact Zf_X8_swap_31 hC L v1 v2 5 I
    · exact Zf_X8_swap_17 hC L v1 v2 I

theorem T_X8_swap (v1 : Int32) (v2 : Int32) (I : e_I) (L : e_L) (p : Int32 × e_I) (hp : f_X8_swap v1 v2 I = some p) : Mt yX8_swap cX8_swap 3 (some .int) 2 gN [.ref 83, .int v1, .int v2] I L ((ph_iI L) p) := zo_enter hp (by decide) (Nat.le_of_ble_eq_true rfl) (fun X hC => Zf_X8_swap hC v1 v2 I L)
def f_X8_lay_69 (k35 : Int32 → Int32 → e_I → e_L → Option (Int32 × e_I × e_L)) (k92 : Int32 → e_I → e_L → Option (Int32 × e_I × e_L)) (v3 : Int32) (s0 : Int32) (s1 : Int32) (I : e_I) (L : e_L) : Option (Int32 × e_I × e_L) :=
  e_let (s1 + s0) (fun (x_1 : Int32) =>
  e_as (e_ix v3 9 = true) (
  e_as (e_ix ((60 : Int32) + v3) 396 = true) (
  e_let (e_ui I 85 ((60 : Int32) + v3).toNatClampNeg (I 94 v3.toNatClampNeg)) (fun (I_4 : e_I) =>
  e_let (v3 + 1) (fun (x_5 : Int32) =>
  k35 x_1 x_5 I_4 L)))))
set_option maxRecDepth 100000 in
set_option maxHeartbeats 4000000 in
theorem Zf_X8_lay_69 {X : e_X} (hC : e_C X cX8_lay RX8 4 (some .int) 24 gN) (k35 : Int32 → Int32 → e_I → e_L → Option (Int32 × e_I × e_L)) (k92 : Int32 → e_I → e_L → Option (Int32 × e_I × e_L)) (hk35 : ∀ (v2 : Int32) (v3 : Int32) (I : e_I) (L : e_L), Zo X (ph_iIL) (k35 v2 v3 I L) 35 [(0, .ref 83), (2, .int v2), (3, .int v3)] [] I L) (hk92 : ∀ (v2 : Int32) (I : e_I) (L : e_L), Zo X (ph_iIL) (k92 v2 I L) 92 [(2, .int v2)] [] I L) (v3 : Int32) (s0 : Int32) (s1 : Int32) (I : e_I) (L : e_L) : Zo X (ph_iIL) (f_X8_lay_69 k35 k92 v3 s0 s1 I L) 69 [(0, .ref 83), (3, .int v3)] [.int s0, .int s1] I L := by
  unfold f_X8_lay_69
  refine zo_iadd hC dX8_lay_69 ?_
  refine zo_topi (fun x_1 => ?_)
  refine zo_istore_n (lv' := [(2, .int x_1), (0, .ref 83), (3, .int v3)]) hC dX8_lay_70 rfl (by decide) rfl ?_
  refine zo_aload_n hC dX8_lay_71 rfl 1 rfl ?_
  refine zo_getR hC (r := 85) fk8_17 (by decide) gr_83_7 at_83 dX8_lay_72 ?_
  refine zo_bipush (v := 60) hC (by decide) dX8_lay_75 ?_
  refine zo_iload_n hC dX8_lay_77 rfl 2 rfl ?_
  refine zo_iadd hC dX8_lay_78 ?_
  refine zo_aload_n hC dX8_lay_79 rfl 1 rfl ?_
  refine zo_getR hC (r := 94) fk8_45 (by decide) gr_83_29 at_83 dX8_lay_80 ?_
  refine zo_iload_n hC dX8_lay_83 rfl 2 rfl ?_
  refine zo_as (fun h_2 => ?_)
  refine zo_iald hC ar_94 (e_ix_vp h_2) dX8_lay_84 ?_
  refine zo_as (fun h_3 => ?_)
  refine zo_iast hC ar_85 (e_ix_vp h_3) dX8_lay_85 ?_
  refine zo_topI (fun I_4 => ?_)
  refine zo_iinc hC (x := v3) (fun x_5 => [(3, .int x_5), (2, .int x_1), (0, .ref 83)]) dX8_lay_86 2 rfl (by rfl) (by decide) (fun _ => rfl) (fun x_5 => ?_)
  refine zo_goto (tgt := 35) hC dX8_lay_89 (by decide) ?_
  refine zo_sub [2, 1, 0] (lv' := [(0, .ref 83), (2, .int x_1), (3, .int x_5)]) rfl ?_
  exact hk35 x_1 x_5 I_4 L

def f_X8_lay_35 (k92 : Int32 → e_I → e_L → Option (Int32 × e_I × e_L)) : Nat → Int32 → Int32 → e_I → e_L → Option (Int32 × e_I × e_L)
  | 0, _, _, _, _ => none
  | n + 1, v2, v3, I, L =>
    if v3 ≥ (I 85 (0 : Int32).toNatClampNeg) then (
      k92 v2 I L)
    else (
      e_as (e_ix ((60 : Int32) + v3) 396 = true) (
      e_as (e_ix v3 9 = true) (
      if (I 85 ((60 : Int32) + v3).toNatClampNeg) = (I 94 v3.toNatClampNeg) then (
        f_X8_lay_69 (fun v2 v3 I L => f_X8_lay_35 k92 n v2 v3 I L) k92 v3 0 v2 I L)
      else (
        f_X8_lay_69 (fun v2 v3 I L => f_X8_lay_35 k92 n v2 v3 I L) k92 v3 1 v2 I L))))
set_option maxRecDepth 100000 in
set_option maxHeartbeats 4000000 in
theorem Zf_X8_lay_35 {X : e_X} (hC : e_C X cX8_lay RX8 4 (some .int) 24 gN) (k92 : Int32 → e_I → e_L → Option (Int32 × e_I × e_L)) (hk92 : ∀ (v2 : Int32) (I : e_I) (L : e_L), Zo X (ph_iIL) (k92 v2 I L) 92 [(2, .int v2)] [] I L) : ∀ (n : Nat) (v2 : Int32) (v3 : Int32) (I : e_I) (L : e_L), Zo X (ph_iIL) (f_X8_lay_35 k92 n v2 v3 I L) 35 [(0, .ref 83), (2, .int v2), (3, .int v3)] [] I L := by
  intro n
  induction n with
  | zero => intro v2 v3 I L p hp; cases hp
  | succ n ih =>
    intro v2 v3 I L
    unfold f_X8_lay_35
    refine zo_iload_n hC dX8_lay_35 rfl 2 rfl ?_
    refine zo_aload_n hC dX8_lay_36 rfl 0 rfl ?_
    refine zo_getR hC (r := 85) fk8_17 (by decide) gr_83_7 at_83 dX8_lay_37 ?_
    refine zo_iconst (v := 0) hC (by decide) dX8_lay_40 ?_
    refine zo_iald hC ar_85 (e_ix_vp (by decide)) dX8_lay_41 ?_
    refine zo_icmp_ge (tgt := 92) hC dX8_lay_42 (by decide) (fun c_1 => ?_) (fun c_1 => ?_)
    · refine zo_sub [1] (lv' := [(2, .int v2)]) rfl ?_
      exact hk92 v2 I L
    · refine zo_iload_n hC dX8_lay_45 rfl 1 rfl ?_
      refine zo_aload_n hC dX8_lay_46 rfl 0 rfl ?_
      refine zo_getR hC (r := 85) fk8_17 (by decide) gr_83_7 at_83 dX8_lay_47 ?_
      refine zo_bipush (v := 60) hC (by decide) dX8_lay_50 ?_
      refine zo_iload_n hC dX8_lay_52 rfl 2 rfl ?_
      refine zo_iadd hC dX8_lay_53 ?_
      refine zo_as (fun h_2 => ?_)
      refine zo_iald hC ar_85 (e_ix_vp h_2) dX8_lay_54 ?_
      refine zo_aload_n hC dX8_lay_55 rfl 0 rfl ?_
      refine zo_getR hC (r := 94) fk8_45 (by decide) gr_83_29 at_83 dX8_lay_56 ?_
      refine zo_iload_n hC dX8_lay_59 rfl 2 rfl ?_
      refine zo_as (fun h_3 => ?_)
      refine zo_iald hC ar_94 (e_ix_vp h_3) dX8_lay_60 ?_
      refine zo_icmp_eq (tgt := 68) hC dX8_lay_61 (by decide) (fun c_4 => ?_) (fun c_4 => ?_)
      · refine zo_iconst (v := 0) hC (by decide) dX8_lay_68 ?_
        refine zo_sub [0, 2] (lv' := [(0, .ref 83), (3, .int v3)]) rfl ?_
        exact Zf_X8_lay_69 hC (fun v2 v3 I L => f_X8_lay_35 k92 n v2 v3 I L) k92 (fun v2 v3 I L => ih v2 v3 I L) hk92 v3 0 v2 I L
      · refine zo_iconst (v := 1) hC (by decide) dX8_lay_64 ?_
        refine zo_goto (tgt := 69) hC dX8_lay_65 (by decide) ?_
        refine zo_sub [0, 2] (lv' := [(0, .ref 83), (3, .int v3)]) rfl ?_
        exact Zf_X8_lay_69 hC (fun v2 v3 I L => f_X8_lay_35 k92 n v2 v3 I L) k92 (fun v2 v3 I L => ih v2 v3 I L) hk92 v3 1 v2 I L

def f_X8_lay (v1 : Int32) (I : e_I) (L : e_L) : Option (Int32 × e_I × e_L) :=
  e_b1 (f_X8_in v1 1 3) (fun (r_1 : Int32) =>
  e_b1 (f_X8_unless_ (I 83 6) r_1) (fun (r_2 : Int32) =>
  e_b2 (f_X8_isRefused r_2 I) (fun (r_3 : Int32) (I_4 : e_I) =>
  if r_3 = 0 then (
    e_b2 (f_X8_laysBest v1 I_4 L) (fun (I_6 : e_I) (L_7 : e_L) =>
    e_b1 (f_X8_remembers I_6) (fun (I_8 : e_I) =>
    f_X8_lay_35 (fun (v2_9 : Int32) (I_10 : e_I) (L_11 : e_L) =>
      some (v2_9, I_10, L_11)) e_FU 0 0 I_8 L_7)))
  else (
    some ((-1), I_4, L)))))
set_option maxRecDepth 100000 in
set_option maxHeartbeats 4000000 in
theorem Zf_X8_lay {X : e_X} (hC : e_C X cX8_lay RX8 4 (some .int) 24 gN) (v1 : Int32) (I : e_I) (L : e_L) : Zo X (ph_iIL) (f_X8_lay v1 I L) 0 [(0, .ref 83), (1, .int v1)] [] I L := by
  unfold f_X8_lay
  refine zo_aload_n hC dX8_lay_0 rfl 0 rfl ?_
  refine zo_aload_n hC dX8_lay_1 rfl 0 rfl ?_
  refine zo_getZ hC fk8_174 at_83 dX8_lay_2 ?_
  refine zo_iload_n hC dX8_lay_5 rfl 1 rfl ?_
  refine zo_iconst (v := 1) hC (by decide) dX8_lay_6 ?_
  refine zo_iconst (v := 3) hC (by decide) dX8_lay_7 ?_
  refine zo_callS_i hC [.int v1, .int 1, .int 3] [.int (I 83 6), .ref 83] me_X8_in mlX8_83 sm_X8_in (fun p hp => T_X8_in v1 1 3 I L p hp) (by decide) rfl (Nat.le_of_ble_eq_true rfl) dX8_lay_8 rfl (fun r_1 => ?_)
  refine zo_callS_i hC [.int (I 83 6), .int r_1] [.ref 83] me_X8_unless_ mlX8_158 sm_X8_unless_ (fun p hp => T_X8_unless_ (I 83 6) r_1 I L p hp) (by decide) rfl (Nat.le_of_ble_eq_true rfl) dX8_lay_11 rfl (fun r_2 => ?_)
  refine zo_callV_iI hC (ci := 8) [.int r_2] [] me_X8_isRefused mlX8_162 im_X8_isRefused se_X8_isRefused rfl (by decide) at_83 (fun p hp => T_X8_isRefused r_2 I L p hp) (by decide) rfl (Nat.le_of_ble_eq_true rfl) dX8_lay_14 rfl (fun r_3 I_4 => ?_)
  refine zo_if_eq (tgt := 22) hC dX8_lay_17 (by decide) (fun c_5 => ?_) (fun c_5 => ?_)
  · refine zo_aload_n hC dX8_lay_22 rfl 0 rfl ?_
    refine zo_iload_n hC dX8_lay_23 rfl 1 rfl ?_
    refine zo_callV_vIL hC (ci := 8) [.int v1] [] me_X8_laysBest mlX8_313 im_X8_laysBest se_X8_laysBest rfl (by decide) at_83 (fun p hp => T_X8_laysBest v1 I_4 L p hp) (by decide) rfl (Nat.le_of_ble_eq_true rfl) dX8_lay_24 rfl (fun I_6 L_7 => ?_)
    refine zo_aload_n hC dX8_lay_27 rfl 0 rfl ?_
    refine zo_callV_vI hC (ci := 8) [] [] me_X8_remembers mlX8_349 im_X8_remembers se_X8_remembers rfl (by decide) at_83 (fun p hp => T_X8_remembers I_6 L_7 p hp) (by decide) rfl (Nat.le_of_ble_eq_true rfl) dX8_lay_28 rfl (fun I_8 => ?_)
    refine zo_iconst (v := 0) hC (by decide) dX8_lay_31 ?_
    refine zo_istore_n (lv' := [(2, .int 0), (0, .ref 83), (1, .int v1)]) hC dX8_lay_32 rfl (by decide) rfl ?_
    refine zo_iconst (v := 0) hC (by decide) dX8_lay_33 ?_
    refine zo_istore_n (lv' := [(3, .int 0), (2, .int 0), (0, .ref 83), (1, .int v1)]) hC dX8_lay_34 rfl (by decide) rfl ?_
    refine zo_sub [2, 1, 0] (lv' := [(0, .ref 83), (2, .int 0), (3, .int 0)]) rfl ?_
    refine Zf_X8_lay_35 hC _ (fun v2_9 I_10 L_11 => ?_) e_FU 0 0 I_8 L_7
    · refine zo_iload_n hC dX8_lay_92 rfl 0 rfl ?_
      exact zo_iret hC rfl dX8_lay_93
  · refine zo_iconst (v := (-1)) hC (by decide) dX8_lay_20 ?_
    exact zo_iret hC rfl dX8_lay_21

theorem T_X8_lay (v1 : Int32) (I : e_I) (L : e_L) (p : Int32 × e_I × e_L) (hp : f_X8_lay v1 I L = some p) : Mt yX8_lay cX8_lay 4 (some .int) 24 gN [.ref 83, .int v1] I L ((ph_iIL) p) := zo_enter hp (by decide) (Nat.le_of_ble_eq_true rfl) (fun X hC => Zf_X8_lay hC v1 I L)
def f_X8_betters_111 (v1 : Int32) (v6 : Int32) (k38 : Int64 → Int32 → Int32 → Int32 → e_I → e_L → Option (Int32 × e_I × e_L)) (k117 : Int64 → Int32 → Int32 → e_I → e_L → Option (Int32 × e_I × e_L)) (v2 : Int64) (v4 : Int32) (v5 : Int32) (v7 : Int32) (I : e_I) (L : e_L) : Option (Int32 × e_I × e_L) :=
  e_let (v7 + 1) (fun (x_1 : Int32) =>
  k38 v2 v4 v5 x_1 I L)
set_option maxRecDepth 100000 in
set_option maxHeartbeats 4000000 in
theorem Zf_X8_betters_111 {X : e_X} (hC : e_C X cX8_betters RX8 10 (some .boolean) 11 gN) (v1 : Int32) (v6 : Int32) (k38 : Int64 → Int32 → Int32 → Int32 → e_I → e_L → Option (Int32 × e_I × e_L)) (k117 : Int64 → Int32 → Int32 → e_I → e_L → Option (Int32 × e_I × e_L)) (hk38 : ∀ (v2 : Int64) (v4 : Int32) (v5 : Int32) (v7 : Int32) (I : e_I) (L : e_L), Zo X (ph_iIL) (k38 v2 v4 v5 v7 I L) 38 [(0, .ref 83), (1, .int v1), (2, .long v2), (4, .int v4), (5, .int v5), (6, .int v6), (7, .int v7)] [] I L) (hk117 : ∀ (v2 : Int64) (v4 : Int32) (v5 : Int32) (I : e_I) (L : e_L), Zo X (ph_iIL) (k117 v2 v4 v5 I L) 117 [(0, .ref 83), (1, .int v1), (2, .long v2), (4, .int v4), (5, .int v5), (6, .int v6)] [] I L) (v2 : Int64) (v4 : Int32) (v5 : Int32) (v7 : Int32) (I : e_I) (L : e_L) : Zo X (ph_iIL) (f_X8_betters_111 v1 v6 k38 k117 v2 v4 v5 v7 I L) 111 [(0, .ref 83), (1, .int v1), (2, .long v2), (4, .int v4), (5, .int v5), (6, .int v6), (7, .int v7)] [] I L := by
  unfold f_X8_betters_111
  refine zo_iinc hC (x := v7) (fun x_1 => [(7, .int x_1), (0, .ref 83), (1, .int v1), (2, .long v2), (4, .int v4), (5, .int v5), (6, .int v6)]) dX8_betters_111 6 rfl (by rfl) (by decide) (fun _ => rfl) (fun x_1 => ?_)
  refine zo_goto (tgt := 38) hC dX8_betters_114 (by decide) ?_
  refine zo_sub [1, 2, 3, 4, 5, 6, 0] (lv' := [(0, .ref 83), (1, .int v1), (2, .long v2), (4, .int v4), (5, .int v5), (6, .int v6), (7, .int x_1)]) rfl ?_
  exact hk38 v2 v4 v5 x_1 I L

def f_X8_betters_38 (v1 : Int32) (v6 : Int32) (k117 : Int64 → Int32 → Int32 → e_I → e_L → Option (Int32 × e_I × e_L)) : Nat → Int64 → Int32 → Int32 → Int32 → e_I → e_L → Option (Int32 × e_I × e_L)
  | 0, _, _, _, _, _, _ => none
  | n + 1, v2, v4, v5, v7, I, L =>
    if v7 ≥ (I 85 (0 : Int32).toNatClampNeg) then (
      k117 v2 v4 v5 I L)
    else (
      e_b1 (f_X8_lays 93 85 0 60 (I 85 (0 : Int32).toNatClampNeg) I) (fun (I_2 : e_I) =>
      e_b1 (f_X8_changes 93 v6 v7 I_2) (fun (I_3 : e_I) =>
      e_b3 (f_X8_worthOf 93 0 v1 I_3 L) (fun (r_4 : Int64) (I_5 : e_I) (L_6 : e_L) =>
      if (lg_cmp r_4 v2) ≤ 0 then (
        f_X8_betters_111 v1 v6 (fun v2 v4 v5 v7 I L => f_X8_betters_38 v1 v6 k117 n v2 v4 v5 v7 I L) k117 v2 v4 v5 v7 I_5 L_6)
      else (
        f_X8_betters_111 v1 v6 (fun v2 v4 v5 v7 I L => f_X8_betters_38 v1 v6 k117 n v2 v4 v5 v7 I L) k117 r_4 v6 v7 v7 I_5 L_6)))))
set_option maxRecDepth 100000 in
set_option maxHeartbeats 4000000 in
theorem Zf_X8_betters_38 {X : e_X} (hC : e_C X cX8_betters RX8 10 (some .boolean) 11 gN) (v1 : Int32) (v6 : Int32) (k117 : Int64 → Int32 → Int32 → e_I → e_L → Option (Int32 × e_I × e_L)) (hk117 : ∀ (v2 : Int64) (v4 : Int32) (v5 : Int32) (I : e_I) (L : e_L), Zo X (ph_iIL) (k117 v2 v4 v5 I L) 117 [(0, .ref 83), (1, .int v1), (2, .long v2), (4, .int v4), (5, .int v5), (6, .int v6)] [] I L) : ∀ (n : Nat) (v2 : Int64) (v4 : Int32) (v5 : Int32) (v7 : Int32) (I : e_I) (L : e_L), Zo X (ph_iIL) (f_X8_betters_38 v1 v6 k117 n v2 v4 v5 v7 I L) 38 [(0, .ref 83), (1, .int v1), (2, .long v2), (4, .int v4), (5, .int v5), (6, .int v6), (7, .int v7)] [] I L := by
  intro n
  induction n with
  | zero => intro v2 v4 v5 v7 I L p hp; cases hp
  | succ n ih =>
    intro v2 v4 v5 v7 I L
    unfold f_X8_betters_38
    refine zo_iload hC dX8_betters_38 6 rfl ?_
    refine zo_aload_n hC dX8_betters_40 rfl 0 rfl ?_
    refine zo_getR hC (r := 85) fk8_17 (by decide) gr_83_7 at_83 dX8_betters_41 ?_
    refine zo_iconst (v := 0) hC (by decide) dX8_betters_44 ?_
    refine zo_iald hC ar_85 (e_ix_vp (by decide)) dX8_betters_45 ?_
    refine zo_icmp_ge (tgt := 117) hC dX8_betters_46 (by decide) (fun c_1 => ?_) (fun c_1 => ?_)
    · refine zo_sub [0, 1, 2, 3, 4, 5] (lv' := [(0, .ref 83), (1, .int v1), (2, .long v2), (4, .int v4), (5, .int v5), (6, .int v6)]) rfl ?_
      exact hk117 v2 v4 v5 I L
    · refine zo_aload_n hC dX8_betters_49 rfl 0 rfl ?_
      refine zo_getR hC (r := 93) fk8_42 (by decide) gr_83_28 at_83 dX8_betters_50 ?_
      refine zo_iconst (v := 0) hC (by decide) dX8_betters_53 ?_
      refine zo_aload_n hC dX8_betters_54 rfl 0 rfl ?_
      refine zo_getR hC (r := 85) fk8_17 (by decide) gr_83_7 at_83 dX8_betters_55 ?_
      refine zo_bipush (v := 60) hC (by decide) dX8_betters_58 ?_
      refine zo_aload_n hC dX8_betters_60 rfl 0 rfl ?_
      refine zo_getR hC (r := 85) fk8_17 (by decide) gr_83_7 at_83 dX8_betters_61 ?_
      refine zo_iconst (v := 0) hC (by decide) dX8_betters_64 ?_
      refine zo_iald hC ar_85 (e_ix_vp (by decide)) dX8_betters_65 ?_
      refine zo_callS_vI hC [.ref 93, .int 0, .ref 85, .int 60, .int (I 85 (0 : Int32).toNatClampNeg)] [] me_X8_lays mlX8_181 sm_X8_lays (fun p hp => T_X8_lays 93 ir_93 85 ir_85 0 60 (I 85 (0 : Int32).toNatClampNeg) I L p hp) (by decide) rfl (Nat.le_of_ble_eq_true rfl) dX8_betters_66 rfl (fun I_2 => ?_)
      refine zo_aload_n hC dX8_betters_69 rfl 0 rfl ?_
      refine zo_aload_n hC dX8_betters_70 rfl 0 rfl ?_
      refine zo_getR hC (r := 93) fk8_42 (by decide) gr_83_28 at_83 dX8_betters_71 ?_
      refine zo_iload hC dX8_betters_74 5 rfl ?_
      refine zo_iload hC dX8_betters_76 6 rfl ?_
      refine zo_callV_vI hC (ci := 8) [.ref 93, .int v6, .int v7] [] me_X8_changes mlX8_316 im_X8_changes se_X8_changes rfl (by decide) at_83 (fun p hp => T_X8_changes 93 ir_93 v6 v7 I_2 L p hp) (by decide) rfl (Nat.le_of_ble_eq_true rfl) dX8_betters_78 rfl (fun I_3 => ?_)
      refine zo_aload_n hC dX8_betters_81 rfl 0 rfl ?_
      refine zo_aload_n hC dX8_betters_82 rfl 0 rfl ?_
      refine zo_getR hC (r := 93) fk8_42 (by decide) gr_83_28 at_83 dX8_betters_83 ?_
      refine zo_iconst (v := 0) hC (by decide) dX8_betters_86 ?_
      refine zo_iload_n hC dX8_betters_87 rfl 1 rfl ?_
      refine zo_callV_lIL hC (ci := 8) [.ref 93, .int 0, .int v1] [] me_X8_worthOf mlX8_303 im_X8_worthOf se_X8_worthOf rfl (by decide) at_83 (fun p hp => T_X8_worthOf 93 ir_93 0 v1 I_3 L p hp) (by decide) rfl (Nat.le_of_ble_eq_true rfl) dX8_betters_88 rfl (fun r_4 I_5 L_6 => ?_)
      refine zo_lstore (lv' := [(8, .long r_4), (0, .ref 83), (1, .int v1), (2, .long v2), (4, .int v4), (5, .int v5), (6, .int v6), (7, .int v7)]) hC dX8_betters_91 (by decide) rfl ?_
      refine zo_lload hC dX8_betters_93 0 rfl ?_
      refine zo_lload_n hC dX8_betters_95 rfl 3 rfl ?_
      refine zo_lcmp hC dX8_betters_96 ?_
      refine zo_if_le (tgt := 111) hC dX8_betters_97 (by decide) (fun c_7 => ?_) (fun c_7 => ?_)
      · refine zo_sub [1, 2, 3, 4, 5, 6, 7] (lv' := [(0, .ref 83), (1, .int v1), (2, .long v2), (4, .int v4), (5, .int v5), (6, .int v6), (7, .int v7)]) rfl ?_
        exact Zf_X8_betters_111 hC v1 v6 (fun v2 v4 v5 v7 I L => f_X8_betters_38 v1 v6 k117 n v2 v4 v5 v7 I L) k117 (fun v2 v4 v5 v7 I L => ih v2 v4 v5 v7 I L) hk117 v2 v4 v5 v7 I_5 L_6
      · refine zo_lload hC dX8_betters_100 0 rfl ?_
        refine zo_lstore_n (lv' := [(2, .long r_4), (8, .long r_4), (0, .ref 83), (1, .int v1), (4, .int v4), (5, .int v5), (6, .int v6), (7, .int v7)]) hC dX8_betters_102 rfl (by decide) rfl ?_
        refine zo_iload hC dX8_betters_103 6 rfl ?_
        refine zo_istore (lv' := [(4, .int v6), (2, .long r_4), (8, .long r_4), (0, .ref 83), (1, .int v1), (5, .int v5), (6, .int v6), (7, .int v7)]) hC dX8_betters_105 (by decide) rfl ?_
        refine zo_iload hC dX8_betters_107 7 rfl ?_
        refine zo_istore (lv' := [(5, .int v7), (4, .int v6), (2, .long r_4), (8, .long r_4), (0, .ref 83), (1, .int v1), (6, .int v6), (7, .int v7)]) hC dX8_betters_109 (by decide) rfl ?_
        refine zo_sub [4, 5, 2, 1, 0, 6, 7] (lv' := [(0, .ref 83), (1, .int v1), (2, .long r_4), (4, .int v6), (5, .int v7), (6, .int v6), (7, .int v7)]) rfl ?_
        exact Zf_X8_betters_111 hC v1 v6 (fun v2 v4 v5 v7 I L => f_X8_betters_38 v1 v6 k117 n v2 v4 v5 v7 I L) k117 (fun v2 v4 v5 v7 I L => ih v2 v4 v5 v7 I L) hk117 r_4 v6 v7 v7 I_5 L_6

def f_X8_betters_21 (v1 : Int32) (k123 : Int32 → Int32 → e_I → e_L → Option (Int32 × e_I × e_L)) : Nat → Int64 → Int32 → Int32 → Int32 → e_I → e_L → Option (Int32 × e_I × e_L)
  | 0, _, _, _, _, _, _ => none
  | n + 1, v2, v4, v5, v6, I, L =>
    if v6 ≥ (I 85 (0 : Int32).toNatClampNeg) then (
      k123 v4 v5 I L)
    else (
      e_let (v6 + 1) (fun (x_2 : Int32) =>
      f_X8_betters_38 v1 v6 (fun (v2_3 : Int64) (v4_4 : Int32) (v5_5 : Int32) (I_6 : e_I) (L_7 : e_L) =>
        e_let (v6 + 1) (fun (x_8 : Int32) =>
        f_X8_betters_21 v1 k123 n v2_3 v4_4 v5_5 x_8 I_6 L_7)) e_FU v2 v4 v5 x_2 I L))
set_option maxRecDepth 100000 in
set_option maxHeartbeats 4000000 in
theorem Zf_X8_betters_21 {X : e_X} (hC : e_C X cX8_betters RX8 10 (some .boolean) 11 gN) (v1 : Int32) (k123 : Int32 → Int32 → e_I → e_L → Option (Int32 × e_I × e_L)) (hk123 : ∀ (v4 : Int32) (v5 : Int32) (I : e_I) (L : e_L), Zo X (ph_iIL) (k123 v4 v5 I L) 123 [(0, .ref 83), (4, .int v4), (5, .int v5)] [] I L) : ∀ (n : Nat) (v2 : Int64) (v4 : Int32) (v5 : Int32) (v6 : Int32) (I : e_I) (L : e_L), Zo X (ph_iIL) (f_X8_betters_21 v1 k123 n v2 v4 v5 v6 I L) 21 [(0, .ref 83), (1, .int v1), (2, .long v2), (4, .int v4), (5, .int v5), (6, .int v6)] [] I L := by
  intro n
  induction n with
  | zero => intro v2 v4 v5 v6 I L p hp; cases hp
  | succ n ih =>
    intro v2 v4 v5 v6 I L
    unfold f_X8_betters_21
    refine zo_iload hC dX8_betters_21 5 rfl ?_
    refine zo_aload_n hC dX8_betters_23 rfl 0 rfl ?_
    refine zo_getR hC (r := 85) fk8_17 (by decide) gr_83_7 at_83 dX8_betters_24 ?_
    refine zo_iconst (v := 0) hC (by decide) dX8_betters_27 ?_
    refine zo_iald hC ar_85 (e_ix_vp (by decide)) dX8_betters_28 ?_
    refine zo_icmp_ge (tgt := 123) hC dX8_betters_29 (by decide) (fun c_1 => ?_) (fun c_1 => ?_)
    · refine zo_sub [0, 3, 4] (lv' := [(0, .ref 83), (4, .int v4), (5, .int v5)]) rfl ?_
      exact hk123 v4 v5 I L
    · refine zo_iload hC dX8_betters_32 5 rfl ?_
      refine zo_iconst (v := 1) hC (by decide) dX8_betters_34 ?_
      refine zo_iadd hC dX8_betters_35 ?_
      refine zo_topi (fun x_2 => ?_)
      refine zo_istore (lv' := [(7, .int x_2), (0, .ref 83), (1, .int v1), (2, .long v2), (4, .int v4), (5, .int v5), (6, .int v6)]) hC dX8_betters_36 (by decide) rfl ?_
      refine zo_sub [1, 2, 3, 4, 5, 6, 0] (lv' := [(0, .ref 83), (1, .int v1), (2, .long v2), (4, .int v4), (5, .int v5), (6, .int v6), (7, .int x_2)]) rfl ?_
      refine Zf_X8_betters_38 hC v1 v6 _ (fun v2_3 v4_4 v5_5 I_6 L_7 => ?_) e_FU v2 v4 v5 x_2 I L
      · refine zo_iinc hC (x := v6) (fun x_8 => [(6, .int x_8), (0, .ref 83), (1, .int v1), (2, .long v2_3), (4, .int v4_4), (5, .int v5_5)]) dX8_betters_117 5 rfl (by rfl) (by decide) (fun _ => rfl) (fun x_8 => ?_)
        refine zo_goto (tgt := 21) hC dX8_betters_120 (by decide) ?_
        refine zo_sub [1, 2, 3, 4, 5, 0] (lv' := [(0, .ref 83), (1, .int v1), (2, .long v2_3), (4, .int v4_4), (5, .int v5_5), (6, .int x_8)]) rfl ?_
        exact ih v2_3 v4_4 v5_5 x_8 I_6 L_7

def f_X8_betters_158 (s0 : Int32) (I : e_I) (L : e_L) : Option (Int32 × e_I × e_L) :=
  e_as (s0 = 0 ∨ s0 = 1) (
  some (s0, I, L))
set_option maxRecDepth 100000 in
set_option maxHeartbeats 4000000 in
theorem Zf_X8_betters_158 {X : e_X} (hC : e_C X cX8_betters RX8 10 (some .boolean) 11 gN) (s0 : Int32) (I : e_I) (L : e_L) : Zo X (ph_iIL) (f_X8_betters_158 s0 I L) 158 [] [.int s0] I L := by
  unfold f_X8_betters_158
  refine zo_as (fun h_1 => ?_)
  exact zo_zret hC h_1 rfl dX8_betters_158

def f_X8_betters_147 (v4 : Int32) (I : e_I) (L : e_L) : Option (Int32 × e_I × e_L) :=
  if v4 = (-1) then (
    f_X8_betters_158 0 I L)
  else (
    f_X8_betters_158 1 I L)
set_option maxRecDepth 100000 in
set_option maxHeartbeats 4000000 in
theorem Zf_X8_betters_147 {X : e_X} (hC : e_C X cX8_betters RX8 10 (some .boolean) 11 gN) (v4 : Int32) (I : e_I) (L : e_L) : Zo X (ph_iIL) (f_X8_betters_147 v4 I L) 147 [(4, .int v4)] [] I L := by
  unfold f_X8_betters_147
  refine zo_iload hC dX8_betters_147 0 rfl ?_
  refine zo_iconst (v := (-1)) hC (by decide) dX8_betters_149 ?_
  refine zo_icmp_eq (tgt := 157) hC dX8_betters_150 (by decide) (fun c_1 => ?_) (fun c_1 => ?_)
  · refine zo_iconst (v := 0) hC (by decide) dX8_betters_157 ?_
    refine zo_sub [] (lv' := []) rfl ?_
    exact Zf_X8_betters_158 hC 0 I L
  · refine zo_iconst (v := 1) hC (by decide) dX8_betters_153 ?_
    refine zo_goto (tgt := 158) hC dX8_betters_154 (by decide) ?_
    refine zo_sub [] (lv' := []) rfl ?_
    exact Zf_X8_betters_158 hC 1 I L

def f_X8_betters (v1 : Int32) (I : e_I) (L : e_L) : Option (Int32 × e_I × e_L) :=
  e_b3 (f_X8_worthOf 85 60 v1 I L) (fun (r_1 : Int64) (I_2 : e_I) (L_3 : e_L) =>
  f_X8_betters_21 v1 (fun (v4_4 : Int32) (v5_5 : Int32) (I_6 : e_I) (L_7 : e_L) =>
    if v4_4 = (-1) then (
      f_X8_betters_147 v4_4 I_6 L_7)
    else (
      e_b1 (f_X8_changes 85 ((60 : Int32) + v4_4) ((60 : Int32) + v5_5) I_6) (fun (I_9 : e_I) =>
      f_X8_betters_147 v4_4 I_9 L_7))) e_FU r_1 (-1) (-1) 0 I_2 L_3)
set_option maxRecDepth 100000 in
set_option maxHeartbeats 4000000 in
theorem Zf_X8_betters {X : e_X} (hC : e_C X cX8_betters RX8 10 (some .boolean) 11 gN) (v1 : Int32) (I : e_I) (L : e_L) : Zo X (ph_iIL) (f_X8_betters v1 I L) 0 [(0, .ref 83), (1, .int v1)] [] I L := by
  unfold f_X8_betters
  refine zo_aload_n hC dX8_betters_0 rfl 0 rfl ?_
  refine zo_aload_n hC dX8_betters_1 rfl 0 rfl ?_
  refine zo_getR hC (r := 85) fk8_17 (by decide) gr_83_7 at_83 dX8_betters_2 ?_
  refine zo_bipush (v := 60) hC (by decide) dX8_betters_5 ?_
  refine zo_iload_n hC dX8_betters_7 rfl 1 rfl ?_
  refine zo_callV_lIL hC (ci := 8) [.ref 85, .int 60, .int v1] [] me_X8_worthOf mlX8_303 im_X8_worthOf se_X8_worthOf rfl (by decide) at_83 (fun p hp => T_X8_worthOf 85 ir_85 60 v1 I L p hp) (by decide) rfl (Nat.le_of_ble_eq_true rfl) dX8_betters_8 rfl (fun r_1 I_2 L_3 => ?_)
  refine zo_lstore_n (lv' := [(2, .long r_1), (0, .ref 83), (1, .int v1)]) hC dX8_betters_11 rfl (by decide) rfl ?_
  refine zo_iconst (v := (-1)) hC (by decide) dX8_betters_12 ?_
  refine zo_istore (lv' := [(4, .int (-1)), (2, .long r_1), (0, .ref 83), (1, .int v1)]) hC dX8_betters_13 (by decide) rfl ?_
  refine zo_iconst (v := (-1)) hC (by decide) dX8_betters_15 ?_
  refine zo_istore (lv' := [(5, .int (-1)), (4, .int (-1)), (2, .long r_1), (0, .ref 83), (1, .int v1)]) hC dX8_betters_16 (by decide) rfl ?_
  refine zo_iconst (v := 0) hC (by decide) dX8_betters_18 ?_
  refine zo_istore (lv' := [(6, .int 0), (5, .int (-1)), (4, .int (-1)), (2, .long r_1), (0, .ref 83), (1, .int v1)]) hC dX8_betters_19 (by decide) rfl ?_
  refine zo_sub [4, 5, 3, 2, 1, 0] (lv' := [(0, .ref 83), (1, .int v1), (2, .long r_1), (4, .int (-1)), (5, .int (-1)), (6, .int 0)]) rfl ?_
  refine Zf_X8_betters_21 hC v1 _ (fun v4_4 v5_5 I_6 L_7 => ?_) e_FU r_1 (-1) (-1) 0 I_2 L_3
  · refine zo_iload hC dX8_betters_123 1 rfl ?_
    refine zo_iconst (v := (-1)) hC (by decide) dX8_betters_125 ?_
    refine zo_icmp_eq (tgt := 147) hC dX8_betters_126 (by decide) (fun c_8 => ?_) (fun c_8 => ?_)
    · refine zo_sub [1] (lv' := [(4, .int v4_4)]) rfl ?_
      exact Zf_X8_betters_147 hC v4_4 I_6 L_7
    · refine zo_aload_n hC dX8_betters_129 rfl 0 rfl ?_
      refine zo_aload_n hC dX8_betters_130 rfl 0 rfl ?_
      refine zo_getR hC (r := 85) fk8_17 (by decide) gr_83_7 at_83 dX8_betters_131 ?_
      refine zo_bipush (v := 60) hC (by decide) dX8_betters_134 ?_
      refine zo_iload hC dX8_betters_136 1 rfl ?_
      refine zo_iadd hC dX8_betters_138 ?_
      refine zo_bipush (v := 60) hC (by decide) dX8_betters_139 ?_
      refine zo_iload hC dX8_betters_141 2 rfl ?_
      refine zo_iadd hC dX8_betters_143 ?_
      refine zo_callV_vI hC (ci := 8) [.ref 85, .int ((60 : Int32) + v4_4), .int ((60 : Int32) + v5_5)] [] me_X8_changes mlX8_316 im_X8_changes se_X8_changes rfl (by decide) at_83 (fun p hp => T_X8_changes 85 ir_85 ((60 : Int32) + v4_4) ((60 : Int32) + v5_5) I_6 L_7 p hp) (by decide) rfl (Nat.le_of_ble_eq_true rfl) dX8_betters_144 rfl (fun I_9 => ?_)
      refine zo_sub [1] (lv' := [(4, .int v4_4)]) rfl ?_
      exact Zf_X8_betters_147 hC v4_4 I_9 L_7

theorem T_X8_betters (v1 : Int32) (I : e_I) (L : e_L) (p : Int32 × e_I × e_L) (hp : f_X8_betters v1 I L = some p) : Mt yX8_betters cX8_betters 10 (some .boolean) 11 gN [.ref 83, .int v1] I L ((ph_iIL) p) := zo_enter hp (by decide) (Nat.le_of_ble_eq_true rfl) (fun X hC => Zf_X8_betters hC v1 I L)
def f_X8_better_28 (v1 : Int32) (k48 : Int32 → e_I → e_L → Option (Int32 × e_I × e_L)) : Nat → Int32 → e_I → e_L → Option (Int32 × e_I × e_L)
  | 0, _, _, _ => none
  | n + 1, v2, I, L =>
    if v2 ≥ 60 then (
      k48 v2 I L)
    else (
      e_b3 (f_X8_betters v1 I L) (fun (r_2 : Int32) (I_3 : e_I) (L_4 : e_L) =>
      if r_2 = 0 then (
        k48 v2 I_3 L_4)
      else (
        e_let (v2 + 1) (fun (x_6 : Int32) =>
        f_X8_better_28 v1 k48 n x_6 I_3 L_4))))
set_option maxRecDepth 100000 in
set_option maxHeartbeats 4000000 in
theorem Zf_X8_better_28 {X : e_X} (hC : e_C X cX8_better RX8 3 (some .int) 12 gN) (v1 : Int32) (k48 : Int32 → e_I → e_L → Option (Int32 × e_I × e_L)) (hk48 : ∀ (v2 : Int32) (I : e_I) (L : e_L), Zo X (ph_iIL) (k48 v2 I L) 48 [(2, .int v2)] [] I L) : ∀ (n : Nat) (v2 : Int32) (I : e_I) (L : e_L), Zo X (ph_iIL) (f_X8_better_28 v1 k48 n v2 I L) 28 [(0, .ref 83), (1, .int v1), (2, .int v2)] [] I L := by
  intro n
  induction n with
  | zero => intro v2 I L p hp; cases hp
  | succ n ih =>
    intro v2 I L
    unfold f_X8_better_28
    refine zo_iload_n hC dX8_better_28 rfl 2 rfl ?_
    refine zo_bipush (v := 60) hC (by decide) dX8_better_29 ?_
    refine zo_icmp_ge (tgt := 48) hC dX8_better_31 (by decide) (fun c_1 => ?_) (fun c_1 => ?_)
    · refine zo_sub [2] (lv' := [(2, .int v2)]) rfl ?_
      exact hk48 v2 I L
    · refine zo_aload_n hC dX8_better_34 rfl 0 rfl ?_
      refine zo_iload_n hC dX8_better_35 rfl 1 rfl ?_
      refine zo_callV_iIL hC (ci := 8) [.int v1] [] me_X8_betters mlX8_352 im_X8_betters se_X8_betters rfl (by decide) at_83 (fun p hp => T_X8_betters v1 I L p hp) (by decide) rfl (Nat.le_of_ble_eq_true rfl) dX8_better_36 rfl (fun r_2 I_3 L_4 => ?_)
      refine zo_if_eq (tgt := 48) hC dX8_better_39 (by decide) (fun c_5 => ?_) (fun c_5 => ?_)
      · refine zo_sub [2] (lv' := [(2, .int v2)]) rfl ?_
        exact hk48 v2 I_3 L_4
      · refine zo_iinc hC (x := v2) (fun x_6 => [(2, .int x_6), (0, .ref 83), (1, .int v1)]) dX8_better_42 2 rfl (by rfl) (by decide) (fun _ => rfl) (fun x_6 => ?_)
        refine zo_goto (tgt := 28) hC dX8_better_45 (by decide) ?_
        refine zo_sub [1, 2, 0] (lv' := [(0, .ref 83), (1, .int v1), (2, .int x_6)]) rfl ?_
        exact ih x_6 I_3 L_4

def f_X8_better (v1 : Int32) (I : e_I) (L : e_L) : Option (Int32 × e_I × e_L) :=
  e_b1 (f_X8_in v1 1 5) (fun (r_1 : Int32) =>
  e_b1 (f_X8_unless_ (I 83 6) r_1) (fun (r_2 : Int32) =>
  e_b2 (f_X8_isRefused r_2 I) (fun (r_3 : Int32) (I_4 : e_I) =>
  if r_3 = 0 then (
    e_b1 (f_X8_remembers I_4) (fun (I_6 : e_I) =>
    f_X8_better_28 v1 (fun (v2_7 : Int32) (I_8 : e_I) (L_9 : e_L) =>
      some (v2_7, I_8, L_9)) e_FU 0 I_6 L))
  else (
    some ((-1), I_4, L)))))
set_option maxRecDepth 100000 in
set_option maxHeartbeats 4000000 in
theorem Zf_X8_better {X : e_X} (hC : e_C X cX8_better RX8 3 (some .int) 12 gN) (v1 : Int32) (I : e_I) (L : e_L) : Zo X (ph_iIL) (f_X8_better v1 I L) 0 [(0, .ref 83), (1, .int v1)] [] I L := by
  unfold f_X8_better
  refine zo_aload_n hC dX8_better_0 rfl 0 rfl ?_
  refine zo_aload_n hC dX8_better_1 rfl 0 rfl ?_
  refine zo_getZ hC fk8_174 at_83 dX8_better_2 ?_
  refine zo_iload_n hC dX8_better_5 rfl 1 rfl ?_
  refine zo_iconst (v := 1) hC (by decide) dX8_better_6 ?_
  refine zo_iconst (v := 5) hC (by decide) dX8_better_7 ?_
  refine zo_callS_i hC [.int v1, .int 1, .int 5] [.int (I 83 6), .ref 83] me_X8_in mlX8_83 sm_X8_in (fun p hp => T_X8_in v1 1 5 I L p hp) (by decide) rfl (Nat.le_of_ble_eq_true rfl) dX8_better_8 rfl (fun r_1 => ?_)
  refine zo_callS_i hC [.int (I 83 6), .int r_1] [.ref 83] me_X8_unless_ mlX8_158 sm_X8_unless_ (fun p hp => T_X8_unless_ (I 83 6) r_1 I L p hp) (by decide) rfl (Nat.le_of_ble_eq_true rfl) dX8_better_11 rfl (fun r_2 => ?_)
  refine zo_callV_iI hC (ci := 8) [.int r_2] [] me_X8_isRefused mlX8_162 im_X8_isRefused se_X8_isRefused rfl (by decide) at_83 (fun p hp => T_X8_isRefused r_2 I L p hp) (by decide) rfl (Nat.le_of_ble_eq_true rfl) dX8_better_14 rfl (fun r_3 I_4 => ?_)
  refine zo_if_eq (tgt := 22) hC dX8_better_17 (by decide) (fun c_5 => ?_) (fun c_5 => ?_)
  · refine zo_aload_n hC dX8_better_22 rfl 0 rfl ?_
    refine zo_callV_vI hC (ci := 8) [] [] me_X8_remembers mlX8_349 im_X8_remembers se_X8_remembers rfl (by decide) at_83 (fun p hp => T_X8_remembers I_4 L p hp) (by decide) rfl (Nat.le_of_ble_eq_true rfl) dX8_better_23 rfl (fun I_6 => ?_)
    refine zo_iconst (v := 0) hC (by decide) dX8_better_26 ?_
    refine zo_istore_n (lv' := [(2, .int 0), (0, .ref 83), (1, .int v1)]) hC dX8_better_27 rfl (by decide) rfl ?_
    refine zo_sub [1, 2, 0] (lv' := [(0, .ref 83), (1, .int v1), (2, .int 0)]) rfl ?_
    refine Zf_X8_better_28 hC v1 _ (fun v2_7 I_8 L_9 => ?_) e_FU 0 I_6 L
    · refine zo_iload_n hC dX8_better_48 rfl 0 rfl ?_
      exact zo_iret hC rfl dX8_better_49
  · refine zo_iconst (v := (-1)) hC (by decide) dX8_better_20 ?_
    exact zo_iret hC rfl dX8_better_21

theorem T_X8_better (v1 : Int32) (I : e_I) (L : e_L) (p : Int32 × e_I × e_L) (hp : f_X8_better v1 I L = some p) : Mt yX8_better cX8_better 3 (some .int) 12 gN [.ref 83, .int v1] I L ((ph_iIL) p) := zo_enter hp (by decide) (Nat.le_of_ble_eq_true rfl) (fun X hC => Zf_X8_better hC v1 I L)
def f_X8_shift_84 (v1 : Int32) (v2 : Int32) (v3 : Int32) (v4 : Int32) (s0 : Int32) (I : e_I) : Option (Int32 × e_I) :=
  e_b2 (f_X8_isRefused s0 I) (fun (r_1 : Int32) (I_2 : e_I) =>
  if r_1 = 0 then (
    e_b1 (f_X8_remembers I_2) (fun (I_4 : e_I) =>
    e_as (e_ix (((6 : Int32) + ((6 : Int32) * v1)) + v2) 396 = true) (
    e_as (e_ix (((6 : Int32) + ((6 : Int32) * v1)) + v2) 396 = true) (
    e_let (e_ui I_4 85 (((6 : Int32) + ((6 : Int32) * v1)) + v2).toNatClampNeg ((I_4 85 (((6 : Int32) + ((6 : Int32) * v1)) + v2).toNatClampNeg) - v4)) (fun (I_7 : e_I) =>
    e_as (e_ix (((6 : Int32) + ((6 : Int32) * v1)) + v3) 396 = true) (
    e_as (e_ix (((6 : Int32) + ((6 : Int32) * v1)) + v3) 396 = true) (
    e_let (e_ui I_7 85 (((6 : Int32) + ((6 : Int32) * v1)) + v3).toNatClampNeg ((I_7 85 (((6 : Int32) + ((6 : Int32) * v1)) + v3).toNatClampNeg) + v4)) (fun (I_10 : e_I) =>
    e_as (e_ix (((6 : Int32) + ((6 : Int32) * v1)) + v3) 396 = true) (
    some ((I_10 85 (((6 : Int32) + ((6 : Int32) * v1)) + v3).toNatClampNeg), I_10))))))))))
  else (
    some ((-1), I_2)))
set_option maxRecDepth 100000 in
set_option maxHeartbeats 4000000 in
theorem Zf_X8_shift_84 {X : e_X} (hC : e_C X cX8_shift RX8 6 (some .int) 2 gN) (L : e_L) (v1 : Int32) (v2 : Int32) (v3 : Int32) (v4 : Int32) (s0 : Int32) (I : e_I) : Zo X (ph_iI L) (f_X8_shift_84 v1 v2 v3 v4 s0 I) 84 [(0, .ref 83), (1, .int v1), (2, .int v2), (3, .int v3), (4, .int v4)] [.int s0, .ref 83] I L := by
  unfold f_X8_shift_84
  refine zo_callV_iI hC (ci := 8) [.int s0] [] me_X8_isRefused mlX8_162 im_X8_isRefused se_X8_isRefused rfl (by decide) at_83 (fun p hp => T_X8_isRefused s0 I L p hp) (by decide) rfl (Nat.le_of_ble_eq_true rfl) dX8_shift_84 rfl (fun r_1 I_2 => ?_)
  refine zo_if_eq (tgt := 92) hC dX8_shift_87 (by decide) (fun c_3 => ?_) (fun c_3 => ?_)
  · refine zo_aload_n hC dX8_shift_92 rfl 0 rfl ?_
    refine zo_callV_vI hC (ci := 8) [] [] me_X8_remembers mlX8_349 im_X8_remembers se_X8_remembers rfl (by decide) at_83 (fun p hp => T_X8_remembers I_2 L p hp) (by decide) rfl (Nat.le_of_ble_eq_true rfl) dX8_shift_93 rfl (fun I_4 => ?_)
    refine zo_aload_n hC dX8_shift_96 rfl 0 rfl ?_
    refine zo_getR hC (r := 85) fk8_17 (by decide) gr_83_7 at_83 dX8_shift_97 ?_
    refine zo_bipush (v := 6) hC (by decide) dX8_shift_100 ?_
    refine zo_bipush (v := 6) hC (by decide) dX8_shift_102 ?_
    refine zo_iload_n hC dX8_shift_104 rfl 1 rfl ?_
    refine zo_imul hC dX8_shift_105 ?_
    refine zo_iadd hC dX8_shift_106 ?_
    refine zo_iload_n hC dX8_shift_107 rfl 2 rfl ?_
    refine zo_iadd hC dX8_shift_108 ?_
    refine zo_dup2 hC rfl rfl dX8_shift_109 ?_
    refine zo_as (fun h_5 => ?_)
    refine zo_iald hC ar_85 (e_ix_vp h_5) dX8_shift_110 ?_
    refine zo_iload hC dX8_shift_111 4 rfl ?_
    refine zo_isub hC dX8_shift_113 ?_
    refine zo_as (fun h_6 => ?_)
    refine zo_iast hC ar_85 (e_ix_vp h_6) dX8_shift_114 ?_
    refine zo_topI (fun I_7 => ?_)
    refine zo_aload_n hC dX8_shift_115 rfl 0 rfl ?_
    refine zo_getR hC (r := 85) fk8_17 (by decide) gr_83_7 at_83 dX8_shift_116 ?_
    refine zo_bipush (v := 6) hC (by decide) dX8_shift_119 ?_
    refine zo_bipush (v := 6) hC (by decide) dX8_shift_121 ?_
    refine zo_iload_n hC dX8_shift_123 rfl 1 rfl ?_
    refine zo_imul hC dX8_shift_124 ?_
    refine zo_iadd hC dX8_shift_125 ?_
    refine zo_iload_n hC dX8_shift_126 rfl 3 rfl ?_
    refine zo_iadd hC dX8_shift_127 ?_
    refine zo_dup2 hC rfl rfl dX8_shift_128 ?_
    refine zo_as (fun h_8 => ?_)
    refine zo_iald hC ar_85 (e_ix_vp h_8) dX8_shift_129 ?_
    refine zo_iload hC dX8_shift_130 4 rfl ?_
    refine zo_iadd hC dX8_shift_132 ?_
    refine zo_as (fun h_9 => ?_)
    refine zo_iast hC ar_85 (e_ix_vp h_9) dX8_shift_133 ?_
    refine zo_topI (fun I_10 => ?_)
    refine zo_aload_n hC dX8_shift_134 rfl 0 rfl ?_
    refine zo_getR hC (r := 85) fk8_17 (by decide) gr_83_7 at_83 dX8_shift_135 ?_
    refine zo_bipush (v := 6) hC (by decide) dX8_shift_138 ?_
    refine zo_bipush (v := 6) hC (by decide) dX8_shift_140 ?_
    refine zo_iload_n hC dX8_shift_142 rfl 1 rfl ?_
    refine zo_imul hC dX8_shift_143 ?_
    refine zo_iadd hC dX8_shift_144 ?_
    refine zo_iload_n hC dX8_shift_145 rfl 3 rfl ?_
    refine zo_iadd hC dX8_shift_146 ?_
    refine zo_as (fun h_11 => ?_)
    refine zo_iald hC ar_85 (e_ix_vp h_11) dX8_shift_147 ?_
    exact zo_iret hC rfl dX8_shift_148
  · refine zo_iconst (v := (-1)) hC (by decide) dX8_shift_90 ?_
    exact zo_iret hC rfl dX8_shift_91

def f_X8_shift_79 (v1 : Int32) (v2 : Int32) (v3 : Int32) (v4 : Int32) (I : e_I) : Option (Int32 × e_I) :=
  f_X8_shift_84 v1 v2 v3 v4 5 I
set_option maxRecDepth 100000 in
set_option maxHeartbeats 4000000 in
theorem Zf_X8_shift_79 {X : e_X} (hC : e_C X cX8_shift RX8 6 (some .int) 2 gN) (L : e_L) (v1 : Int32) (v2 : Int32) (v3 : Int32) (v4 : Int32) (I : e_I) : Zo X (ph_iI L) (f_X8_shift_79 v1 v2 v3 v4 I) 79 [(0, .ref 83), (1, .int v1), (2, .int v2), (3, .int v3), (4, .int v4)] [.ref 83] I L := by
  unfold f_X8_shift_79
  refine zo_iconst (v := 5) hC (by decide) dX8_shift_79 ?_
  refine zo_goto (tgt := 84) hC dX8_shift_80 (by decide) ?_
  exact Zf_X8_shift_84 hC L v1 v2 v3 v4 5 I

def f_X8_shift_31 (v1 : Int32) (v2 : Int32) (v3 : Int32) (v4 : Int32) (s0 : Int32) (I : e_I) : Option (Int32 × e_I) :=
  e_b1 (f_X8_in v4 1 20) (fun (r_1 : Int32) =>
  e_b1 (f_X8_unless_ s0 r_1) (fun (r_2 : Int32) =>
  if r_2 = 0 then (
    if v2 = v3 then (
      f_X8_shift_79 v1 v2 v3 v4 I)
    else (
      e_as (e_ix (((6 : Int32) + ((6 : Int32) * v1)) + v2) 396 = true) (
      if (I 85 (((6 : Int32) + ((6 : Int32) * v1)) + v2).toNatClampNeg) ≥ v4 then (
        f_X8_shift_84 v1 v2 v3 v4 0 I)
      else (
        f_X8_shift_79 v1 v2 v3 v4 I))))
  else (
    f_X8_shift_84 v1 v2 v3 v4 r_2 I)))
set_option maxRecDepth 100000 in
set_option maxHeartbeats 4000000 in
theorem Zf_X8_shift_31 {X : e_X} (hC : e_C X cX8_shift RX8 6 (some .int) 2 gN) (L : e_L) (v1 : Int32) (v2 : Int32) (v3 : Int32) (v4 : Int32) (s0 : Int32) (I : e_I) : Zo X (ph_iI L) (f_X8_shift_31 v1 v2 v3 v4 s0 I) 31 [(0, .ref 83), (1, .int v1), (2, .int v2), (3, .int v3), (4, .int v4)] [.int s0] I L := by
  unfold f_X8_shift_31
  refine zo_iload hC dX8_shift_31 4 rfl ?_
  refine zo_iconst (v := 1) hC (by decide) dX8_shift_33 ?_
  refine zo_bipush (v := 20) hC (by decide) dX8_shift_34 ?_
  refine zo_callS_i hC [.int v4, .int 1, .int 20] [.int s0] me_X8_in mlX8_83 sm_X8_in (fun p hp => T_X8_in v4 1 20 I L p hp) (by decide) rfl (Nat.le_of_ble_eq_true rfl) dX8_shift_36 rfl (fun r_1 => ?_)
  refine zo_callS_i hC [.int s0, .int r_1] [] me_X8_unless_ mlX8_158 sm_X8_unless_ (fun p hp => T_X8_unless_ s0 r_1 I L p hp) (by decide) rfl (Nat.le_of_ble_eq_true rfl) dX8_shift_39 rfl (fun r_2 => ?_)
  refine zo_istore (lv' := [(5, .int r_2), (0, .ref 83), (1, .int v1), (2, .int v2), (3, .int v3), (4, .int v4)]) hC dX8_shift_42 (by decide) rfl ?_
  refine zo_aload_n hC dX8_shift_44 rfl 1 rfl ?_
  refine zo_iload hC dX8_shift_45 0 rfl ?_
  refine zo_if_eq (tgt := 55) hC dX8_shift_47 (by decide) (fun c_3 => ?_) (fun c_3 => ?_)
  · refine zo_iload_n hC dX8_shift_55 rfl 3 rfl ?_
    refine zo_iload_n hC dX8_shift_56 rfl 4 rfl ?_
    refine zo_icmp_eq (tgt := 79) hC dX8_shift_57 (by decide) (fun c_4 => ?_) (fun c_4 => ?_)
    · refine zo_sub [1, 2, 3, 4, 5] (lv' := [(0, .ref 83), (1, .int v1), (2, .int v2), (3, .int v3), (4, .int v4)]) rfl ?_
      exact Zf_X8_shift_79 hC L v1 v2 v3 v4 I
    · refine zo_aload_n hC dX8_shift_60 rfl 1 rfl ?_
      refine zo_getR hC (r := 85) fk8_17 (by decide) gr_83_7 at_83 dX8_shift_61 ?_
      refine zo_bipush (v := 6) hC (by decide) dX8_shift_64 ?_
      refine zo_bipush (v := 6) hC (by decide) dX8_shift_66 ?_
      refine zo_iload_n hC dX8_shift_68 rfl 2 rfl ?_
      refine zo_imul hC dX8_shift_69 ?_
      refine zo_iadd hC dX8_shift_70 ?_
      refine zo_iload_n hC dX8_shift_71 rfl 3 rfl ?_
      refine zo_iadd hC dX8_shift_72 ?_
      refine zo_as (fun h_5 => ?_)
      refine zo_iald hC ar_85 (e_ix_vp h_5) dX8_shift_73 ?_
      refine zo_iload hC dX8_shift_74 5 rfl ?_
      refine zo_icmp_ge (tgt := 83) hC dX8_shift_76 (by decide) (fun c_6 => ?_) (fun c_6 => ?_)
      · refine zo_iconst (v := 0) hC (by decide) dX8_shift_83 ?_
        refine zo_sub [1, 2, 3, 4, 5] (lv' := [(0, .ref 83), (1, .int v1), (2, .int v2), (3, .int v3), (4, .int v4)]) rfl ?_
        exact Zf_X8_shift_84 hC L v1 v2 v3 v4 0 I
      · refine zo_sub [1, 2, 3, 4, 5] (lv' := [(0, .ref 83), (1, .int v1), (2, .int v2), (3, .int v3), (4, .int v4)]) rfl ?_
        exact Zf_X8_shift_79 hC L v1 v2 v3 v4 I
  · refine zo_iload hC dX8_shift_50 0 rfl ?_
    refine zo_goto (tgt := 84) hC dX8_shift_52 (by decide) ?_
    refine zo_sub [1, 2, 3, 4, 5] (lv' := [(0, .ref 83), (1, .int v1), (2, .int v2), (3, .int v3), (4, .int v4)]) rfl ?_
    exact Zf_X8_shift_84 hC L v1 v2 v3 v4 r_2 I

def f_X8_shift_30 (v1 : Int32) (v2 : Int32) (v3 : Int32) (v4 : Int32) (I : e_I) : Option (Int32 × e_I) :=
  f_X8_shift_31 v1 v2 v3 v4 0 I
set_option maxRecDepth 100000 in
set_option maxHeartbeats 4000000 in
theorem Zf_X8_shift_30 {X : e_X} (hC : e_C X cX8_shift RX8 6 (some .int) 2 gN) (L : e_L) (v1 : Int32) (v2 : Int32) (v3 : Int32) (v4 : Int32) (I : e_I) : Zo X (ph_iI L) (f_X8_shift_30 v1 v2 v3 v4 I) 30 [(0, .ref 83), (1, .int v1), (2, .int v2), (3, .int v3), (4, .int v4)] [] I L := by
  unfold f_X8_shift_30
  refine zo_iconst (v := 0) hC (by decide) dX8_shift_30 ?_
  exact Zf_X8_shift_31 hC L v1 v2 v3 v4 0 I

def f_X8_shift (v1 : Int32) (v2 : Int32) (v3 : Int32) (v4 : Int32) (I : e_I) : Option (Int32 × e_I) :=
  e_b1 (f_X8_isBatter v1 I) (fun (r_1 : Int32) =>
  if r_1 = 0 then (
    f_X8_shift_30 v1 v2 v3 v4 I)
  else (
    e_b1 (f_X8_in v2 0 5) (fun (r_3 : Int32) =>
    if r_3 = 0 then (
      f_X8_shift_30 v1 v2 v3 v4 I)
    else (
      e_b1 (f_X8_in v3 0 5) (fun (r_5 : Int32) =>
      if r_5 = 0 then (
        f_X8_shift_30 v1 v2 v3 v4 I)
      else (
        f_X8_shift_31 v1 v2 v3 v4 1 I))))))
set_option maxRecDepth 100000 in
set_option maxHeartbeats 4000000 in
theorem Zf_X8_shift {X : e_X} (hC : e_C X cX8_shift RX8 6 (some .int) 2 gN) (v1 : Int32) (v2 : Int32) (v3 : Int32) (v4 : Int32) (I : e_I) (L : e_L) : Zo X (ph_iI L) (f_X8_shift v1 v2 v3 v4 I) 0 [(0, .ref 83), (1, .int v1), (2, .int v2), (3, .int v3), (4, .int v4)] [] I L := by
  unfold f_X8_shift
  refine zo_aload_n hC dX8_shift_0 rfl 0 rfl ?_
  refine zo_iload_n hC dX8_shift_1 rfl 1 rfl ?_
  refine zo_callV_i hC (ci := 8) [.int v1] [] me_X8_isBatter mlX8_192 im_X8_isBatter se_X8_isBatter rfl (by decide) at_83 (fun p hp => T_X8_isBatter v1 I L p hp) (by decide) rfl (Nat.le_of_ble_eq_true rfl) dX8_shift_2 rfl (fun r_1 => ?_)
  refine zo_if_eq (tgt := 30) hC dX8_shift_5 (by decide) (fun c_2 => ?_) (fun c_2 => ?_)
  · exact Zf_X8_shift_30 hC L v1 v2 v3 v4 I
  · refine zo_iload_n hC dX8_shift_8 rfl 2 rfl ?_
    refine zo_iconst (v := 0) hC (by decide) dX8_shift_9 ?_
    refine zo_iconst (v := 5) hC (by decide) dX8_shift_10 ?_
    refine zo_callS_i hC [.int v2, .int 0, .int 5] [] me_X8_in mlX8_83 sm_X8_in (fun p hp => T_X8_in v2 0 5 I L p hp) (by decide) rfl (Nat.le_of_ble_eq_true rfl) dX8_shift_11 rfl (fun r_3 => ?_)
    refine zo_if_eq (tgt := 30) hC dX8_shift_14 (by decide) (fun c_4 => ?_) (fun c_4 => ?_)
    · exact Zf_X8_shift_30 hC L v1 v2 v3 v4 I
    · refine zo_iload_n hC dX8_shift_17 rfl 3 rfl ?_
      refine zo_iconst (v := 0) hC (by decide) dX8_shift_18 ?_
      refine zo_iconst (v := 5) hC (by decide) dX8_shift_19 ?_
      refine zo_callS_i hC [.int v3, .int 0, .int 5] [] me_X8_in mlX8_83 sm_X8_in (fun p hp => T_X8_in v3 0 5 I L p hp) (by decide) rfl (Nat.le_of_ble_eq_true rfl) dX8_shift_20 rfl (fun r_5 => ?_)
      refine zo_if_eq (tgt := 30) hC dX8_shift_23 (by decide) (fun c_6 => ?_) (fun c_6 => ?_)
      · exact Zf_X8_shift_30 hC L v1 v2 v3 v4 I
      · refine zo_iconst (v := 1) hC (by decide) dX8_shift_26 ?_
        refine zo_goto (tgt := 31) hC dX8_shift_27 (by decide) ?_
        exact Zf_X8_shift_31 hC L v1 v2 v3 v4 1 I

theorem T_X8_shift (v1 : Int32) (v2 : Int32) (v3 : Int32) (v4 : Int32) (I : e_I) (L : e_L) (p : Int32 × e_I) (hp : f_X8_shift v1 v2 v3 v4 I = some p) : Mt yX8_shift cX8_shift 6 (some .int) 2 gN [.ref 83, .int v1, .int v2, .int v3, .int v4] I L ((ph_iI L) p) := zo_enter hp (by decide) (Nat.le_of_ble_eq_true rfl) (fun X hC => Zf_X8_shift hC v1 v2 v3 v4 I L)
