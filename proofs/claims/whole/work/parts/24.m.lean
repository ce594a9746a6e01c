def f_X8_fillsRow_57 (rc : Int32 → Int32 → Int32 → e_I → e_L → Option (e_I × e_L)) (I : e_I) (L : e_L) : Option (e_I × e_L) :=
  some (I, L)
set_option maxRecDepth 100000 in
set_option maxHeartbeats 4000000 in
theorem Zf_X8_fillsRow_57 {X : e_X} {m : Nat} (hC : e_C X cX8_fillsRow RX8 6 none (12 + m) gN) (rc : Int32 → Int32 → Int32 → e_I → e_L → Option (e_I × e_L)) (hrc : ∀ (v1 v2 v3 : Int32) (I : e_I) (L : e_L) (p : e_I × e_L), rc v1 v2 v3 I L = some p → Mt yX8_fillsRow cX8_fillsRow 6 none (11 + m) gN [.ref 83, .int v1, .int v2, .int v3] I L (ph_vIL p)) (I : e_I) (L : e_L) : Zo X (ph_vIL) (f_X8_fillsRow_57 rc I L) 57 [] [] I L := by
  unfold f_X8_fillsRow_57
  exact zo_vret hC rfl dX8_fillsRow_57

def f_X8_fillsRow_123 (rc : Int32 → Int32 → Int32 → e_I → e_L → Option (e_I × e_L)) (v1 : Int32) (v2 : Int32) (v3 : Int32) (k64 : Int32 → Int32 → e_I → e_L → Option (e_I × e_L)) (k129 : e_I → e_L → Option (e_I × e_L)) (v4 : Int32) (v5 : Int32) (I : e_I) (L : e_L) : Option (e_I × e_L) :=
  e_let (v5 + 1) (fun (x_1 : Int32) =>
  k64 v4 x_1 I L)
set_option maxRecDepth 100000 in
set_option maxHeartbeats 4000000 in
theorem Zf_X8_fillsRow_123 {X : e_X} {m : Nat} (hC : e_C X cX8_fillsRow RX8 6 none (12 + m) gN) (rc : Int32 → Int32 → Int32 → e_I → e_L → Option (e_I × e_L)) (hrc : ∀ (v1 v2 v3 : Int32) (I : e_I) (L : e_L) (p : e_I × e_L), rc v1 v2 v3 I L = some p → Mt yX8_fillsRow cX8_fillsRow 6 none (11 + m) gN [.ref 83, .int v1, .int v2, .int v3] I L (ph_vIL p)) (v1 : Int32) (v2 : Int32) (v3 : Int32) (k64 : Int32 → Int32 → e_I → e_L → Option (e_I × e_L)) (k129 : e_I → e_L → Option (e_I × e_L)) (hk64 : ∀ (v4 : Int32) (v5 : Int32) (I : e_I) (L : e_L), Zo X (ph_vIL) (k64 v4 v5 I L) 64 [(0, .ref 83), (1, .int v1), (2, .int v2), (3, .int v3), (4, .int v4), (5, .int v5)] [] I L) (hk129 : ∀ (I : e_I) (L : e_L), Zo X (ph_vIL) (k129 I L) 129 [] [] I L) (v4 : Int32) (v5 : Int32) (I : e_I) (L : e_L) : Zo X (ph_vIL) (f_X8_fillsRow_123 rc v1 v2 v3 k64 k129 v4 v5 I L) 123 [(0, .ref 83), (1, .int v1), (2, .int v2), (3, .int v3), (4, .int v4), (5, .int v5)] [] I L := by
  unfold f_X8_fillsRow_123
  refine zo_iinc hC (x := v5) (fun x_1 => [(5, .int x_1), (0, .ref 83), (1, .int v1), (2, .int v2), (3, .int v3), (4, .int v4)]) dX8_fillsRow_123 5 rfl (by rfl) (by decide) (fun _ => rfl) (fun x_1 => ?_)
  refine zo_goto (tgt := 64) hC dX8_fillsRow_126 (by decide) ?_
  refine zo_sub [1, 2, 3, 4, 5, 0] (lv' := [(0, .ref 83), (1, .int v1), (2, .int v2), (3, .int v3), (4, .int v4), (5, .int x_1)]) rfl ?_
  exact hk64 v4 x_1 I L

def f_X8_fillsRow_121 (rc : Int32 → Int32 → Int32 → e_I → e_L → Option (e_I × e_L)) (v1 : Int32) (v2 : Int32) (v3 : Int32) (k64 : Int32 → Int32 → e_I → e_L → Option (e_I × e_L)) (k129 : e_I → e_L → Option (e_I × e_L)) (v5 : Int32) (s0 : Int32) (I : e_I) (L : e_L) : Option (e_I × e_L) :=
  f_X8_fillsRow_123 rc v1 v2 v3 k64 k129 s0 v5 I L
set_option maxRecDepth 100000 in
set_option maxHeartbeats 4000000 in
theorem Zf_X8_fillsRow_121 {X : e_X} {m : Nat} (hC : e_C X cX8_fillsRow RX8 6 none (12 + m) gN) (rc : Int32 → Int32 → Int32 → e_I → e_L → Option (e_I × e_L)) (hrc : ∀ (v1 v2 v3 : Int32) (I : e_I) (L : e_L) (p : e_I × e_L), rc v1 v2 v3 I L = some p → Mt yX8_fillsRow cX8_fillsRow 6 none (11 + m) gN [.ref 83, .int v1, .int v2, .int v3] I L (ph_vIL p)) (v1 : Int32) (v2 : Int32) (v3 : Int32) (k64 : Int32 → Int32 → e_I → e_L → Option (e_I × e_L)) (k129 : e_I → e_L → Option (e_I × e_L)) (hk64 : ∀ (v4 : Int32) (v5 : Int32) (I : e_I) (L : e_L), Zo X (ph_vIL) (k64 v4 v5 I L) 64 [(0, .ref 83), (1, .int v1), (2, .int v2), (3, .int v3), (4, .int v4), (5, .int v5)] [] I L) (hk129 : ∀ (I : e_I) (L : e_L), Zo X (ph_vIL) (k129 I L) 129 [] [] I L) (v5 : Int32) (s0 : Int32) (I : e_I) (L : e_L) : Zo X (ph_vIL) (f_X8_fillsRow_121 rc v1 v2 v3 k64 k129 v5 s0 I L) 121 [(0, .ref 83), (1, .int v1), (2, .int v2), (3, .int v3), (5, .int v5)] [.int s0] I L := by
  unfold f_X8_fillsRow_121
  refine zo_istore (lv' := [(4, .int s0), (0, .ref 83), (1, .int v1), (2, .int v2), (3, .int v3), (5, .int v5)]) hC dX8_fillsRow_121 (by decide) rfl ?_
  refine zo_sub [1, 2, 3, 4, 0, 5] (lv' := [(0, .ref 83), (1, .int v1), (2, .int v2), (3, .int v3), (4, .int s0), (5, .int v5)]) rfl ?_
  exact Zf_X8_fillsRow_123 hC rc hrc v1 v2 v3 k64 k129 hk64 hk129 s0 v5 I L

def f_X8_fillsRow_64 (rc : Int32 → Int32 → Int32 → e_I → e_L → Option (e_I × e_L)) (v1 : Int32) (v2 : Int32) (v3 : Int32) (k129 : e_I → e_L → Option (e_I × e_L)) : Nat → Int32 → Int32 → e_I → e_L → Option (e_I × e_L)
  | 0, _, _, _, _ => none
  | n + 1, v4, v5, I, L =>
    if v5 ≥ (I 85 (0 : Int32).toNatClampNeg) then (
      k129 I L)
    else (
      if v4 = 0 then (
        k129 I L)
      else (
        if ((v2 >>> (v5 &&& 31)) &&& 1) ≠ 0 then (
          f_X8_fillsRow_123 rc v1 v2 v3 (fun v4 v5 I L => f_X8_fillsRow_64 rc v1 v2 v3 k129 n v4 v5 I L) k129 v4 v5 I L)
        else (
          e_as (e_ix v1 9 = true) (
          e_let (e_ui I 93 v1.toNatClampNeg v5) (fun (I_5 : e_I) =>
          e_b2 (rc (v1 + 1) (v2 ||| ((1 : Int32) <<< (v5 &&& 31))) v3 I_5 L) (fun (I_6 : e_I) (L_7 : e_L) =>
          if v1 ≥ v3 then (
            f_X8_fillsRow_121 rc v1 v2 v3 (fun v4 v5 I L => f_X8_fillsRow_64 rc v1 v2 v3 k129 n v4 v5 I L) k129 v5 0 I_6 L_7)
          else (
            f_X8_fillsRow_121 rc v1 v2 v3 (fun v4 v5 I L => f_X8_fillsRow_64 rc v1 v2 v3 k129 n v4 v5 I L) k129 v5 1 I_6 L_7)))))))
set_option maxRecDepth 100000 in
set_option maxHeartbeats 4000000 in
theorem Zf_X8_fillsRow_64 {X : e_X} {m : Nat} (hC : e_C X cX8_fillsRow RX8 6 none (12 + m) gN) (rc : Int32 → Int32 → Int32 → e_I → e_L → Option (e_I × e_L)) (hrc : ∀ (v1 v2 v3 : Int32) (I : e_I) (L : e_L) (p : e_I × e_L), rc v1 v2 v3 I L = some p → Mt yX8_fillsRow cX8_fillsRow 6 none (11 + m) gN [.ref 83, .int v1, .int v2, .int v3] I L (ph_vIL p)) (v1 : Int32) (v2 : Int32) (v3 : Int32) (k129 : e_I → e_L → Option (e_I × e_L)) (hk129 : ∀ (I : e_I) (L : e_L), Zo X (ph_vIL) (k129 I L) 129 [] [] I L) : ∀ (n : Nat) (v4 : Int32) (v5 : Int32) (I : e_I) (L : e_L), Zo X (ph_vIL) (f_X8_fillsRow_64 rc v1 v2 v3 k129 n v4 v5 I L) 64 [(0, .ref 83), (1, .int v1), (2, .int v2), (3, .int v3), (4, .int v4), (5, .int v5)] [] I L := by
  intro n
  induction n with
  | zero => intro v4 v5 I L p hp; cases hp
  | succ n ih =>
    intro v4 v5 I L
    unfold f_X8_fillsRow_64
    refine zo_iload hC dX8_fillsRow_64 5 rfl ?_
    refine zo_aload_n hC dX8_fillsRow_66 rfl 0 rfl ?_
    refine zo_getR hC (r := 85) fk8_17 (by decide) gr_83_7 at_83 dX8_fillsRow_67 ?_
    refine zo_iconst (v := 0) hC (by decide) dX8_fillsRow_70 ?_
    refine zo_iald hC ar_85 (e_ix_vp (by decide)) dX8_fillsRow_71 ?_
    refine zo_icmp_ge (tgt := 129) hC dX8_fillsRow_72 (by decide) (fun c_1 => ?_) (fun c_1 => ?_)
    · refine zo_sub [] (lv' := []) rfl ?_
      exact hk129 I L
    · refine zo_iload hC dX8_fillsRow_75 4 rfl ?_
      refine zo_if_eq (tgt := 129) hC dX8_fillsRow_77 (by decide) (fun c_2 => ?_) (fun c_2 => ?_)
      · refine zo_sub [] (lv' := []) rfl ?_
        exact hk129 I L
      · refine zo_iload_n hC dX8_fillsRow_80 rfl 2 rfl ?_
        refine zo_iload hC dX8_fillsRow_81 5 rfl ?_
        refine zo_ishr hC dX8_fillsRow_83 ?_
        refine zo_iconst (v := 1) hC (by decide) dX8_fillsRow_84 ?_
        refine zo_iand hC dX8_fillsRow_85 ?_
        refine zo_if_ne (tgt := 123) hC dX8_fillsRow_86 (by decide) (fun c_3 => ?_) (fun c_3 => ?_)
        · exact Zf_X8_fillsRow_123 hC rc hrc v1 v2 v3 (fun v4 v5 I L => f_X8_fillsRow_64 rc v1 v2 v3 k129 n v4 v5 I L) k129 (fun v4 v5 I L => ih v4 v5 I L) hk129 v4 v5 I L
        · refine zo_aload_n hC dX8_fillsRow_89 rfl 0 rfl ?_
          refine zo_getR hC (r := 93) fk8_42 (by decide) gr_83_28 at_83 dX8_fillsRow_90 ?_
          refine zo_iload_n hC dX8_fillsRow_93 rfl 1 rfl ?_
          refine zo_iload hC dX8_fillsRow_94 5 rfl ?_
          refine zo_as (fun h_4 => ?_)
          refine zo_iast hC ar_93 (e_ix_vp h_4) dX8_fillsRow_96 ?_
          refine zo_topI (fun I_5 => ?_)
          refine zo_aload_n hC dX8_fillsRow_97 rfl 0 rfl ?_
          refine zo_iload_n hC dX8_fillsRow_98 rfl 1 rfl ?_
          refine zo_iconst (v := 1) hC (by decide) dX8_fillsRow_99 ?_
          refine zo_iadd hC dX8_fillsRow_100 ?_
          refine zo_iload_n hC dX8_fillsRow_101 rfl 2 rfl ?_
          refine zo_iconst (v := 1) hC (by decide) dX8_fillsRow_102 ?_
          refine zo_iload hC dX8_fillsRow_103 5 rfl ?_
          refine zo_ishl hC dX8_fillsRow_105 ?_
          refine zo_ior hC dX8_fillsRow_106 ?_
          refine zo_iload_n hC dX8_fillsRow_107 rfl 3 rfl ?_
          refine zo_callV_vIL hC (ci := 8) [.int (v1 + 1), .int (v2 ||| ((1 : Int32) <<< (v5 &&& 31))), .int v3] [] me_X8_fillsRow mlX8_310 im_X8_fillsRow se_X8_fillsRow rfl (by decide) at_83 (fun p hp => hrc (v1 + 1) (v2 ||| ((1 : Int32) <<< (v5 &&& 31))) v3 I_5 L p hp) (by omega) rfl (Nat.le_of_ble_eq_true rfl) dX8_fillsRow_108 rfl (fun I_6 L_7 => ?_)
          refine zo_iload_n hC dX8_fillsRow_111 rfl 1 rfl ?_
          refine zo_iload_n hC dX8_fillsRow_112 rfl 3 rfl ?_
          refine zo_icmp_ge (tgt := 120) hC dX8_fillsRow_113 (by decide) (fun c_8 => ?_) (fun c_8 => ?_)
          · refine zo_iconst (v := 0) hC (by decide) dX8_fillsRow_120 ?_
            refine zo_sub [0, 1, 2, 3, 5] (lv' := [(0, .ref 83), (1, .int v1), (2, .int v2), (3, .int v3), (5, .int v5)]) rfl ?_
            exact Zf_X8_fillsRow_121 hC rc hrc v1 v2 v3 (fun v4 v5 I L => f_X8_fillsRow_64 rc v1 v2 v3 k129 n v4 v5 I L) k129 (fun v4 v5 I L => ih v4 v5 I L) hk129 v5 0 I_6 L_7
          · refine zo_iconst (v := 1) hC (by decide) dX8_fillsRow_116 ?_
            refine zo_goto (tgt := 121) hC dX8_fillsRow_117 (by decide) ?_
            refine zo_sub [0, 1, 2, 3, 5] (lv' := [(0, .ref 83), (1, .int v1), (2, .int v2), (3, .int v3), (5, .int v5)]) rfl ?_
            exact Zf_X8_fillsRow_121 hC rc hrc v1 v2 v3 (fun v4 v5 I L => f_X8_fillsRow_64 rc v1 v2 v3 k129 n v4 v5 I L) k129 (fun v4 v5 I L => ih v4 v5 I L) hk129 v5 1 I_6 L_7

def f_X8_fillsRowB (rc : Int32 → Int32 → Int32 → e_I → e_L → Option (e_I × e_L)) (v1 : Int32) (v2 : Int32) (v3 : Int32) (I : e_I) (L : e_L) : Option (e_I × e_L) :=
  if v1 ≠ (I 85 (0 : Int32).toNatClampNeg) then (
    f_X8_fillsRow_64 rc v1 v2 v3 (fun (I_2 : e_I) (L_3 : e_L) =>
      some (I_2, L_3)) e_FU 1 0 I L)
  else (
    e_b3 (f_X8_worthOf 93 0 v3 I L) (fun (r_4 : Int64) (I_5 : e_I) (L_6 : e_L) =>
    if (lg_cmp r_4 (L_6 83 30)) ≤ 0 then (
      f_X8_fillsRow_57 rc I_5 L_6)
    else (
      e_let (e_ul L_6 83 30 r_4) (fun (L_8 : e_L) =>
      e_b1 (f_X8_lays 94 93 0 0 (I_5 85 (0 : Int32).toNatClampNeg) I_5) (fun (I_9 : e_I) =>
      f_X8_fillsRow_57 rc I_9 L_8)))))
set_option maxRecDepth 100000 in
set_option maxHeartbeats 4000000 in
theorem Zf_X8_fillsRowB {X : e_X} {m : Nat} (hC : e_C X cX8_fillsRow RX8 6 none (12 + m) gN) (rc : Int32 → Int32 → Int32 → e_I → e_L → Option (e_I × e_L)) (hrc : ∀ (v1 v2 v3 : Int32) (I : e_I) (L : e_L) (p : e_I × e_L), rc v1 v2 v3 I L = some p → Mt yX8_fillsRow cX8_fillsRow 6 none (11 + m) gN [.ref 83, .int v1, .int v2, .int v3] I L (ph_vIL p)) (v1 : Int32) (v2 : Int32) (v3 : Int32) (I : e_I) (L : e_L) : Zo X (ph_vIL) (f_X8_fillsRowB rc v1 v2 v3 I L) 0 [(0, .ref 83), (1, .int v1), (2, .int v2), (3, .int v3)] [] I L := by
  unfold f_X8_fillsRowB
  refine zo_iload_n hC dX8_fillsRow_0 rfl 1 rfl ?_
  refine zo_aload_n hC dX8_fillsRow_1 rfl 0 rfl ?_
  refine zo_getR hC (r := 85) fk8_17 (by decide) gr_83_7 at_83 dX8_fillsRow_2 ?_
  refine zo_iconst (v := 0) hC (by decide) dX8_fillsRow_5 ?_
  refine zo_iald hC ar_85 (e_ix_vp (by decide)) dX8_fillsRow_6 ?_
  refine zo_icmp_ne (tgt := 58) hC dX8_fillsRow_7 (by decide) (fun c_1 => ?_) (fun c_1 => ?_)
  · refine zo_iconst (v := 1) hC (by decide) dX8_fillsRow_58 ?_
    refine zo_istore (lv' := [(4, .int 1), (0, .ref 83), (1, .int v1), (2, .int v2), (3, .int v3)]) hC dX8_fillsRow_59 (by decide) rfl ?_
    refine zo_iconst (v := 0) hC (by decide) dX8_fillsRow_61 ?_
    refine zo_istore (lv' := [(5, .int 0), (4, .int 1), (0, .ref 83), (1, .int v1), (2, .int v2), (3, .int v3)]) hC dX8_fillsRow_62 (by decide) rfl ?_
    refine zo_sub [2, 3, 4, 5, 1, 0] (lv' := [(0, .ref 83), (1, .int v1), (2, .int v2), (3, .int v3), (4, .int 1), (5, .int 0)]) rfl ?_
    refine Zf_X8_fillsRow_64 hC rc hrc v1 v2 v3 _ (fun I_2 L_3 => ?_) e_FU 1 0 I L
    · exact zo_vret hC rfl dX8_fillsRow_129
  · refine zo_aload_n hC dX8_fillsRow_10 rfl 0 rfl ?_
    refine zo_aload_n hC dX8_fillsRow_11 rfl 0 rfl ?_
    refine zo_getR hC (r := 93) fk8_42 (by decide) gr_83_28 at_83 dX8_fillsRow_12 ?_
    refine zo_iconst (v := 0) hC (by decide) dX8_fillsRow_15 ?_
    refine zo_iload_n hC dX8_fillsRow_16 rfl 3 rfl ?_
    refine zo_callV_lIL hC (ci := 8) [.ref 93, .int 0, .int v3] [] me_X8_worthOf mlX8_303 im_X8_worthOf se_X8_worthOf rfl (by decide) at_83 (fun p hp => T_X8_worthOf 93 ir_93 0 v3 I L p hp) (by omega) rfl (Nat.le_of_ble_eq_true rfl) dX8_fillsRow_17 rfl (fun r_4 I_5 L_6 => ?_)
    refine zo_lstore (lv' := [(4, .long r_4), (0, .ref 83), (1, .int v1), (2, .int v2), (3, .int v3)]) hC dX8_fillsRow_20 (by decide) rfl ?_
    refine zo_lload hC dX8_fillsRow_22 0 rfl ?_
    refine zo_aload_n hC dX8_fillsRow_24 rfl 1 rfl ?_
    refine zo_getL hC fk8_307 at_83 dX8_fillsRow_25 ?_
    refine zo_lcmp hC dX8_fillsRow_28 ?_
    refine zo_if_le (tgt := 57) hC dX8_fillsRow_29 (by decide) (fun c_7 => ?_) (fun c_7 => ?_)
    · refine zo_sub [] (lv' := []) rfl ?_
      exact Zf_X8_fillsRow_57 hC rc hrc I_5 L_6
    · refine zo_aload_n hC dX8_fillsRow_32 rfl 1 rfl ?_
      refine zo_lload hC dX8_fillsRow_33 0 rfl ?_
      refine zo_putL hC fk8_307 ff8_30 at_83 dX8_fillsRow_35 ?_
      refine zo_topL (fun L_8 => ?_)
      refine zo_aload_n hC dX8_fillsRow_38 rfl 1 rfl ?_
      refine zo_getR hC (r := 94) fk8_45 (by decide) gr_83_29 at_83 dX8_fillsRow_39 ?_
      refine zo_iconst (v := 0) hC (by decide) dX8_fillsRow_42 ?_
      refine zo_aload_n hC dX8_fillsRow_43 rfl 1 rfl ?_
      refine zo_getR hC (r := 93) fk8_42 (by decide) gr_83_28 at_83 dX8_fillsRow_44 ?_
      refine zo_iconst (v := 0) hC (by decide) dX8_fillsRow_47 ?_
      refine zo_aload_n hC dX8_fillsRow_48 rfl 1 rfl ?_
      refine zo_getR hC (r := 85) fk8_17 (by decide) gr_83_7 at_83 dX8_fillsRow_49 ?_
      refine zo_iconst (v := 0) hC (by decide) dX8_fillsRow_52 ?_
      refine zo_iald hC ar_85 (e_ix_vp (by decide)) dX8_fillsRow_53 ?_
      refine zo_callS_vI hC [.ref 94, .int 0, .ref 93, .int 0, .int (I_5 85 (0 : Int32).toNatClampNeg)] [] me_X8_lays mlX8_181 sm_X8_lays (fun p hp => T_X8_lays 94 ir_94 93 ir_93 0 0 (I_5 85 (0 : Int32).toNatClampNeg) I_5 L_8 p hp) (by omega) rfl (Nat.le_of_ble_eq_true rfl) dX8_fillsRow_54 rfl (fun I_9 => ?_)
      refine zo_sub [] (lv' := []) rfl ?_
      exact Zf_X8_fillsRow_57 hC rc hrc I_9 L_8


def f_X8_fillsRowN : Nat → Int32 → Int32 → Int32 → e_I → e_L → Option (e_I × e_L)
  | 0, _, _, _, _, _ => none
  | n + 1, v1, v2, v3, I, L => f_X8_fillsRowB (f_X8_fillsRowN n) v1 v2 v3 I L
theorem T_X8_fillsRowN : ∀ (n : Nat) (v1 v2 v3 : Int32) (I : e_I) (L : e_L) (p : e_I × e_L), f_X8_fillsRowN n v1 v2 v3 I L = some p → Mt yX8_fillsRow cX8_fillsRow 6 none (11 + n) gN [.ref 83, .int v1, .int v2, .int v3] I L (ph_vIL p) := by
  intro n
  induction n with
  | zero => intro v1 v2 v3 I L p hp; cases hp
  | succ n ih =>
    intro v1 v2 v3 I L p hp
    have e : 11 + (n + 1) = 12 + n := by omega
    rw [e]
    exact zo_enter hp (by decide) (Nat.le_of_ble_eq_true rfl) (fun X hC => Zf_X8_fillsRowB hC (f_X8_fillsRowN n) (fun v1 v2 v3 I L p hp => ih v1 v2 v3 I L p hp) v1 v2 v3 I L)
def f_X8_fillsRow (v1 v2 v3 : Int32) (I : e_I) (L : e_L) : Option (e_I × e_L) := f_X8_fillsRowN 11 v1 v2 v3 I L
theorem T_X8_fillsRow (v1 v2 v3 : Int32) (I : e_I) (L : e_L) (p : e_I × e_L) (hp : f_X8_fillsRow v1 v2 v3 I L = some p) : Mt yX8_fillsRow cX8_fillsRow 6 none 22 gN [.ref 83, .int v1, .int v2, .int v3] I L (ph_vIL p) := T_X8_fillsRowN 11 v1 v2 v3 I L p hp
