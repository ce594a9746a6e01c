def f_X1_fillRow_12 (I : e_I) (v1 : Int32) (k43 : e_L → Option (e_L)) : Nat → Int32 → e_L → Option (e_L)
  | 0, _, _ => none
  | n + 1, v2, L =>
    if v2 ≥ 24 then (
      k43 L)
    else (
      e_b1 (f_X1_hitMean (v1 - 1) v2 I L) (fun (r_2 : Int64) =>
      e_as (e_ix ((v1 * 25) + v2) 150 = true) (
      e_let (e_ul L 15 ((v1 * 25) + v2).toNatClampNeg r_2) (fun (L_4 : e_L) =>
      e_let (v2 + 1) (fun (x_5 : Int32) =>
      f_X1_fillRow_12 I v1 k43 n x_5 L_4)))))
set_option maxRecDepth 100000 in
set_option maxHeartbeats 4000000 in
theorem Zf_X1_fillRow_12 {X : e_X} (hC : e_C X cX1_fillRow RX1 3 none 2 gN) (I : e_I) (v1 : Int32) (k43 : e_L → Option (e_L)) (hk43 : ∀ (L : e_L), Zo X (ph_vL I) (k43 L) 43 [] [] I L) : ∀ (n : Nat) (v2 : Int32) (L : e_L), Zo X (ph_vL I) (f_X1_fillRow_12 I v1 k43 n v2 L) 12 [(0, .ref 11), (1, .int v1), (2, .int v2)] [] I L := by
  intro n
  induction n with
  | zero => intro v2 L p hp; cases hp
  | succ n ih =>
    intro v2 L
    unfold f_X1_fillRow_12
    refine zo_iload_n hC dX1_fillRow_12 rfl 2 rfl ?_
    refine zo_bipush (v := 24) hC (by decide) dX1_fillRow_13 ?_
    refine zo_icmp_ge (tgt := 43) hC dX1_fillRow_15 (by decide) (fun c_1 => ?_) (fun c_1 => ?_)
    · refine zo_sub [] (lv' := []) rfl ?_
      exact hk43 L
    · refine zo_aload_n hC dX1_fillRow_18 rfl 0 rfl ?_
      refine zo_getR hC (r := 15) fk1_18 (by decide) gr_11_1 at_11 dX1_fillRow_19 ?_
      refine zo_iload_n hC dX1_fillRow_22 rfl 1 rfl ?_
      refine zo_bipush (v := 25) hC (by decide) dX1_fillRow_23 ?_
      refine zo_imul hC dX1_fillRow_25 ?_
      refine zo_iload_n hC dX1_fillRow_26 rfl 2 rfl ?_
      refine zo_iadd hC dX1_fillRow_27 ?_
      refine zo_aload_n hC dX1_fillRow_28 rfl 0 rfl ?_
      refine zo_iload_n hC dX1_fillRow_29 rfl 1 rfl ?_
      refine zo_iconst (v := 1) hC (by decide) dX1_fillRow_30 ?_
      refine zo_isub hC dX1_fillRow_31 ?_
      refine zo_iload_n hC dX1_fillRow_32 rfl 2 rfl ?_
      refine zo_callV_l hC (ci := 1) [.int (v1 - 1), .int v2] [.int ((v1 * 25) + v2), .ref 15] me_X1_hitMean mlX1_63 im_X1_hitMean se_X1_hitMean rfl (by decide) at_11 (fun p hp => T_X1_hitMean (v1 - 1) v2 I L p hp) (by decide) rfl (Nat.le_of_ble_eq_true rfl) dX1_fillRow_33 rfl (fun r_2 => ?_)
      refine zo_as (fun h_3 => ?_)
      refine zo_last hC ar_15 (e_ix_vp h_3) dX1_fillRow_36 ?_
      refine zo_topL (fun L_4 => ?_)
      refine zo_iinc hC (x := v2) (fun x_5 => [(2, .int x_5), (0, .ref 11), (1, .int v1)]) dX1_fillRow_37 2 rfl (by rfl) (by decide) (fun _ => rfl) (fun x_5 => ?_)
      refine zo_goto (tgt := 12) hC dX1_fillRow_40 (by decide) ?_
      refine zo_sub [1, 2, 0] (lv' := [(0, .ref 11), (1, .int v1), (2, .int x_5)]) rfl ?_
      exact ih x_5 L_4

def f_X1_fillRow (v1 : Int32) (I : e_I) (L : e_L) : Option (e_L) :=
  e_b1 (f_X7_within v1 1 5) (fun (r_1 : Int32) =>
  if r_1 ≠ 0 then (
    f_X1_fillRow_12 I v1 (fun (L_3 : e_L) =>
      some L_3) e_FU 0 L)
  else (
    some L))
set_option maxRecDepth 100000 in
set_option maxHeartbeats 4000000 in
theorem Zf_X1_fillRow {X : e_X} (hC : e_C X cX1_fillRow RX1 3 none 2 gN) (v1 : Int32) (I : e_I) (L : e_L) : Zo X (ph_vL I) (f_X1_fillRow v1 I L) 0 [(0, .ref 11), (1, .int v1)] [] I L := by
  unfold f_X1_fillRow
  refine zo_iload_n hC dX1_fillRow_0 rfl 1 rfl ?_
  refine zo_iconst (v := 1) hC (by decide) dX1_fillRow_1 ?_
  refine zo_iconst (v := 5) hC (by decide) dX1_fillRow_2 ?_
  refine zo_callSN_i hC [.int v1, .int 1, .int 5] [] me_X7_within (List.mem_of_getElem? (i := 7) rfl) sm_X7_within (fun p hp => T_X7_within v1 1 5 I L p hp) (by decide) rfl (Nat.le_of_ble_eq_true rfl) dX1_fillRow_3 rfl (fun r_1 => ?_)
  refine zo_if_ne (tgt := 10) hC dX1_fillRow_6 (by decide) (fun c_2 => ?_) (fun c_2 => ?_)
  · refine zo_iconst (v := 0) hC (by decide) dX1_fillRow_10 ?_
    refine zo_istore_n (lv' := [(2, .int 0), (0, .ref 11), (1, .int v1)]) hC dX1_fillRow_11 rfl (by decide) rfl ?_
    refine zo_sub [1, 2, 0] (lv' := [(0, .ref 11), (1, .int v1), (2, .int 0)]) rfl ?_
    refine Zf_X1_fillRow_12 hC I v1 _ (fun L_3 => ?_) e_FU 0 L
    · exact zo_vret hC rfl dX1_fillRow_43
  · exact zo_vret hC rfl dX1_fillRow_9

theorem T_X1_fillRow (v1 : Int32) (I : e_I) (L : e_L) (p : e_L) (hp : f_X1_fillRow v1 I L = some p) : Mt yX1_fillRow cX1_fillRow 3 none 2 gN [.ref 11, .int v1] I L ((ph_vL I) p) := zo_enter hp (by decide) (Nat.le_of_ble_eq_true rfl) (fun X hC => Zf_X1_fillRow hC v1 I L)
def f_X1_scaleBy_9 (v1 : Int64) (k37 : e_L → Option (e_L)) : Nat → Int32 → e_L → Option (e_L)
  | 0, _, _ => none
  | n + 1, v3, L =>
    if v3 ≥ 6 then (
      k37 L)
    else (
      e_as (e_ix (v3 - 1) 6 = true) (
      e_as (e_ix v3 6 = true) (
      e_let (e_ul L 16 v3.toNatClampNeg ((L 16 (v3 - 1).toNatClampNeg) * v1)) (fun (L_4 : e_L) =>
      e_let (v3 + 1) (fun (x_5 : Int32) =>
      f_X1_scaleBy_9 v1 k37 n x_5 L_4)))))
set_option maxRecDepth 100000 in
set_option maxHeartbeats 4000000 in
theorem Zf_X1_scaleBy_9 {X : e_X} (hC : e_C X cX1_scaleBy RX1 4 none 0 gN) (I : e_I) (v1 : Int64) (k37 : e_L → Option (e_L)) (hk37 : ∀ (L : e_L), Zo X (ph_vL I) (k37 L) 37 [] [] I L) : ∀ (n : Nat) (v3 : Int32) (L : e_L), Zo X (ph_vL I) (f_X1_scaleBy_9 v1 k37 n v3 L) 9 [(0, .ref 11), (1, .long v1), (3, .int v3)] [] I L := by
  intro n
  induction n with
  | zero => intro v3 L p hp; cases hp
  | succ n ih =>
    intro v3 L
    unfold f_X1_scaleBy_9
    refine zo_iload_n hC dX1_scaleBy_9 rfl 2 rfl ?_
    refine zo_bipush (v := 6) hC (by decide) dX1_scaleBy_10 ?_
    refine zo_icmp_ge (tgt := 37) hC dX1_scaleBy_12 (by decide) (fun c_1 => ?_) (fun c_1 => ?_)
    · refine zo_sub [] (lv' := []) rfl ?_
      exact hk37 L
    · refine zo_aload_n hC dX1_scaleBy_15 rfl 0 rfl ?_
      refine zo_getR hC (r := 16) fk1_22 (by decide) gr_11_2 at_11 dX1_scaleBy_16 ?_
      refine zo_iload_n hC dX1_scaleBy_19 rfl 2 rfl ?_
      refine zo_aload_n hC dX1_scaleBy_20 rfl 0 rfl ?_
      refine zo_getR hC (r := 16) fk1_22 (by decide) gr_11_2 at_11 dX1_scaleBy_21 ?_
      refine zo_iload_n hC dX1_scaleBy_24 rfl 2 rfl ?_
      refine zo_iconst (v := 1) hC (by decide) dX1_scaleBy_25 ?_
      refine zo_isub hC dX1_scaleBy_26 ?_
      refine zo_as (fun h_2 => ?_)
      refine zo_lald hC ar_16 (e_ix_vp h_2) dX1_scaleBy_27 ?_
      refine zo_lload_n hC dX1_scaleBy_28 rfl 1 rfl ?_
      refine zo_lmul hC dX1_scaleBy_29 ?_
      refine zo_as (fun h_3 => ?_)
      refine zo_last hC ar_16 (e_ix_vp h_3) dX1_scaleBy_30 ?_
      refine zo_topL (fun L_4 => ?_)
      refine zo_iinc hC (x := v3) (fun x_5 => [(3, .int x_5), (0, .ref 11), (1, .long v1)]) dX1_scaleBy_31 2 rfl (by rfl) (by decide) (fun _ => rfl) (fun x_5 => ?_)
      refine zo_goto (tgt := 9) hC dX1_scaleBy_34 (by decide) ?_
      refine zo_sub [1, 2, 0] (lv' := [(0, .ref 11), (1, .long v1), (3, .int x_5)]) rfl ?_
      exact ih x_5 L_4

def f_X1_scaleBy (v1 : Int64) (L : e_L) : Option (e_L) :=
  e_let (e_ul L 16 (0 : Int32).toNatClampNeg 1) (fun (L_1 : e_L) =>
  f_X1_scaleBy_9 v1 (fun (L_2 : e_L) =>
    some L_2) e_FU 1 L_1)
set_option maxRecDepth 100000 in
set_option maxHeartbeats 4000000 in
theorem Zf_X1_scaleBy {X : e_X} (hC : e_C X cX1_scaleBy RX1 4 none 0 gN) (v1 : Int64) (I : e_I) (L : e_L) : Zo X (ph_vL I) (f_X1_scaleBy v1 L) 0 [(0, .ref 11), (1, .long v1)] [] I L := by
  unfold f_X1_scaleBy
  refine zo_aload_n hC dX1_scaleBy_0 rfl 0 rfl ?_
  refine zo_getR hC (r := 16) fk1_22 (by decide) gr_11_2 at_11 dX1_scaleBy_1 ?_
  refine zo_iconst (v := 0) hC (by decide) dX1_scaleBy_4 ?_
  refine zo_lconst (v := 1) hC (by decide) dX1_scaleBy_5 ?_
  refine zo_last hC ar_16 (e_ix_vp (by decide)) dX1_scaleBy_6 ?_
  refine zo_topL (fun L_1 => ?_)
  refine zo_iconst (v := 1) hC (by decide) dX1_scaleBy_7 ?_
  refine zo_istore_n (lv' := [(3, .int 1), (0, .ref 11), (1, .long v1)]) hC dX1_scaleBy_8 rfl (by decide) rfl ?_
  refine zo_sub [1, 2, 0] (lv' := [(0, .ref 11), (1, .long v1), (3, .int 1)]) rfl ?_
  refine Zf_X1_scaleBy_9 hC I v1 _ (fun L_2 => ?_) e_FU 1 L_1
  · exact zo_vret hC rfl dX1_scaleBy_37

theorem T_X1_scaleBy (v1 : Int64) (I : e_I) (L : e_L) (p : e_L) (hp : f_X1_scaleBy v1 L = some p) : Mt yX1_scaleBy cX1_scaleBy 4 none 0 gN [.ref 11, .long v1] I L ((ph_vL I) p) := zo_enter hp (by decide) (Nat.le_of_ble_eq_true rfl) (fun X hC => Zf_X1_scaleBy hC v1 I L)
def f_X1_sendUp_3 (g1 : Nat) (v2 : Int32) (v3 : Int32) (k30 : e_I → Option (e_I)) : Nat → Int32 → e_I → Option (e_I)
  | 0, _, _ => none
  | n + 1, v4, I =>
    if v4 ≥ 6 then (
      k30 I)
    else (
      e_b1 (f_X0_chanceOf g1 v2 v4 I) (fun (r_2 : Int32) =>
      e_as (e_ix v4 6 = true) (
      e_let (e_ui I 17 v4.toNatClampNeg r_2) (fun (I_4 : e_I) =>
      e_let (v4 + 1) (fun (x_5 : Int32) =>
      f_X1_sendUp_3 g1 v2 v3 k30 n x_5 I_4)))))
set_option maxRecDepth 100000 in
set_option maxHeartbeats 4000000 in
theorem Zf_X1_sendUp_3 {X : e_X} (hC : e_C X cX1_sendUp RX1 5 none 2 gN) (g1 : Nat) (hg1 : e_isG g1) (L : e_L) (v2 : Int32) (v3 : Int32) (k30 : e_I → Option (e_I)) (hk30 : ∀ (I : e_I), Zo X (ph_vI L) (k30 I) 30 [(0, .ref 11), (1, .ref g1), (2, .int v2), (3, .int v3)] [] I L) : ∀ (n : Nat) (v4 : Int32) (I : e_I), Zo X (ph_vI L) (f_X1_sendUp_3 g1 v2 v3 k30 n v4 I) 3 [(0, .ref 11), (1, .ref g1), (2, .int v2), (3, .int v3), (4, .int v4)] [] I L := by
  intro n
  induction n with
  | zero => intro v4 I p hp; cases hp
  | succ n ih =>
    intro v4 I
    unfold f_X1_sendUp_3
    refine zo_iload hC dX1_sendUp_3 4 rfl ?_
    refine zo_bipush (v := 6) hC (by decide) dX1_sendUp_5 ?_
    refine zo_icmp_ge (tgt := 30) hC dX1_sendUp_7 (by decide) (fun c_1 => ?_) (fun c_1 => ?_)
    · refine zo_sub [0, 1, 2, 3] (lv' := [(0, .ref 11), (1, .ref g1), (2, .int v2), (3, .int v3)]) rfl ?_
      exact hk30 I
    · refine zo_aload_n hC dX1_sendUp_10 rfl 0 rfl ?_
      refine zo_getR hC (r := 17) fk1_25 (by decide) gr_11_3 at_11 dX1_sendUp_11 ?_
      refine zo_iload hC dX1_sendUp_14 4 rfl ?_
      refine zo_aload_n hC dX1_sendUp_16 rfl 1 rfl ?_
      refine zo_iload_n hC dX1_sendUp_17 rfl 2 rfl ?_
      refine zo_iload hC dX1_sendUp_18 4 rfl ?_
      refine zo_callV_i hC (ci := 0) [.int v2, .int v4] [.int v4, .ref 17] me_X0_chanceOf mlX1_36 im_X0_chanceOf se_X0_chanceOf rfl (by decide) (atG hg1) (fun p hp => T_X0_chanceOf g1 hg1 v2 v4 I L p hp) (by decide) rfl (Nat.le_of_ble_eq_true rfl) dX1_sendUp_20 rfl (fun r_2 => ?_)
      refine zo_as (fun h_3 => ?_)
      refine zo_iast hC ar_17 (e_ix_vp h_3) dX1_sendUp_23 ?_
      refine zo_topI (fun I_4 => ?_)
      refine zo_iinc hC (x := v4) (fun x_5 => [(4, .int x_5), (0, .ref 11), (1, .ref g1), (2, .int v2), (3, .int v3)]) dX1_sendUp_24 4 rfl (by rfl) (by decide) (fun _ => rfl) (fun x_5 => ?_)
      refine zo_goto (tgt := 3) hC dX1_sendUp_27 (by decide) ?_
      refine zo_sub [1, 2, 3, 4, 0] (lv' := [(0, .ref 11), (1, .ref g1), (2, .int v2), (3, .int v3), (4, .int x_5)]) rfl ?_
      exact ih x_5 I_4

def f_X1_sendUp (g1 : Nat) (v2 : Int32) (v3 : Int32) (I : e_I) : Option (e_I) :=
  f_X1_sendUp_3 g1 v2 v3 (fun (I_1 : e_I) =>
    e_b1 (f_X0_tiredBy g1 v2 v3 I_1) (fun (r_2 : Int32) =>
    e_let (e_ui I_1 17 (0 : Int32).toNatClampNeg ((I_1 17 (0 : Int32).toNatClampNeg) - r_2)) (fun (I_3 : e_I) =>
    e_let (e_ui I_3 17 (2 : Int32).toNatClampNeg ((I_3 17 (2 : Int32).toNatClampNeg) + r_2)) (fun (I_4 : e_I) =>
    some I_4)))) e_FU 0 I
set_option maxRecDepth 100000 in
set_option maxHeartbeats 4000000 in
theorem Zf_X1_sendUp {X : e_X} (hC : e_C X cX1_sendUp RX1 5 none 2 gN) (g1 : Nat) (hg1 : e_isG g1) (v2 : Int32) (v3 : Int32) (I : e_I) (L : e_L) : Zo X (ph_vI L) (f_X1_sendUp g1 v2 v3 I) 0 [(0, .ref 11), (1, .ref g1), (2, .int v2), (3, .int v3)] [] I L := by
  unfold f_X1_sendUp
  refine zo_iconst (v := 0) hC (by decide) dX1_sendUp_0 ?_
  refine zo_istore (lv' := [(4, .int 0), (0, .ref 11), (1, .ref g1), (2, .int v2), (3, .int v3)]) hC dX1_sendUp_1 (by decide) rfl ?_
  refine zo_sub [1, 2, 3, 4, 0] (lv' := [(0, .ref 11), (1, .ref g1), (2, .int v2), (3, .int v3), (4, .int 0)]) rfl ?_
  refine Zf_X1_sendUp_3 hC g1 hg1 L v2 v3 _ (fun I_1 => ?_) e_FU 0 I
  · refine zo_aload_n hC dX1_sendUp_30 rfl 1 rfl ?_
    refine zo_iload_n hC dX1_sendUp_31 rfl 2 rfl ?_
    refine zo_iload_n hC dX1_sendUp_32 rfl 3 rfl ?_
    refine zo_callV_i hC (ci := 0) [.int v2, .int v3] [] me_X0_tiredBy mlX1_42 im_X0_tiredBy se_X0_tiredBy rfl (by decide) (atG hg1) (fun p hp => T_X0_tiredBy g1 hg1 v2 v3 I_1 L p hp) (by decide) rfl (Nat.le_of_ble_eq_true rfl) dX1_sendUp_33 rfl (fun r_2 => ?_)
    refine zo_istore (lv' := [(4, .int r_2), (0, .ref 11), (1, .ref g1), (2, .int v2), (3, .int v3)]) hC dX1_sendUp_36 (by decide) rfl ?_
    refine zo_aload_n hC dX1_sendUp_38 rfl 1 rfl ?_
    refine zo_getR hC (r := 17) fk1_25 (by decide) gr_11_3 at_11 dX1_sendUp_39 ?_
    refine zo_iconst (v := 0) hC (by decide) dX1_sendUp_42 ?_
    refine zo_dup2 hC rfl rfl dX1_sendUp_43 ?_
    refine zo_iald hC ar_17 (e_ix_vp (by decide)) dX1_sendUp_44 ?_
    refine zo_iload hC dX1_sendUp_45 0 rfl ?_
    refine zo_isub hC dX1_sendUp_47 ?_
    refine zo_iast hC ar_17 (e_ix_vp (by decide)) dX1_sendUp_48 ?_
    refine zo_topI (fun I_3 => ?_)
    refine zo_aload_n hC dX1_sendUp_49 rfl 1 rfl ?_
    refine zo_getR hC (r := 17) fk1_25 (by decide) gr_11_3 at_11 dX1_sendUp_50 ?_
    refine zo_iconst (v := 2) hC (by decide) dX1_sendUp_53 ?_
    refine zo_dup2 hC rfl rfl dX1_sendUp_54 ?_
    refine zo_iald hC ar_17 (e_ix_vp (by decide)) dX1_sendUp_55 ?_
    refine zo_iload hC dX1_sendUp_56 0 rfl ?_
    refine zo_iadd hC dX1_sendUp_58 ?_
    refine zo_iast hC ar_17 (e_ix_vp (by decide)) dX1_sendUp_59 ?_
    refine zo_topI (fun I_4 => ?_)
    exact zo_vret hC rfl dX1_sendUp_60

theorem T_X1_sendUp (g1 : Nat) (hg1 : e_isG g1) (v2 : Int32) (v3 : Int32) (I : e_I) (L : e_L) (p : e_I) (hp : f_X1_sendUp g1 v2 v3 I = some p) : Mt yX1_sendUp cX1_sendUp 5 none 2 gN [.ref 11, .ref g1, .int v2, .int v3] I L ((ph_vI L) p) := zo_enter hp (by decide) (Nat.le_of_ble_eq_true rfl) (fun X hC => Zf_X1_sendUp hC g1 hg1 v2 v3 I L)
def f_X1_plainMean_10 (g1 : Nat) (v2 : Int32) (v3 : Int32) (v4 : Int32) (v5 : Int32) (k52 : e_I → e_L → Option (Int64 × e_I × e_L)) : Nat → Int32 → e_I → e_L → Option (Int64 × e_I × e_L)
  | 0, _, _, _ => none
  | n + 1, v6, I, L =>
    if v6 ≥ v4 then (
      k52 I L)
    else (
      e_b1 (f_X0_batterRound g1 ((v2 + v4) - v6) I) (fun (r_2 : Int32) =>
      e_b1 (f_X1_sendUp g1 r_2 ((v3 + v4) - v6) I) (fun (I_3 : e_I) =>
      e_b1 (f_X1_fillRow v6 I_3 L) (fun (L_4 : e_L) =>
      e_let (v6 + 1) (fun (x_5 : Int32) =>
      f_X1_plainMean_10 g1 v2 v3 v4 v5 k52 n x_5 I_3 L_4)))))
set_option maxRecDepth 100000 in
set_option maxHeartbeats 4000000 in
theorem Zf_X1_plainMean_10 {X : e_X} (hC : e_C X cX1_plainMean RX1 7 (some .long) 3 gN) (g1 : Nat) (hg1 : e_isG g1) (v2 : Int32) (v3 : Int32) (v4 : Int32) (v5 : Int32) (k52 : e_I → e_L → Option (Int64 × e_I × e_L)) (hk52 : ∀ (I : e_I) (L : e_L), Zo X (ph_lIL) (k52 I L) 52 [(0, .ref 11), (1, .ref g1), (2, .int v2), (3, .int v3), (4, .int v4), (5, .int v5)] [] I L) : ∀ (n : Nat) (v6 : Int32) (I : e_I) (L : e_L), Zo X (ph_lIL) (f_X1_plainMean_10 g1 v2 v3 v4 v5 k52 n v6 I L) 10 [(0, .ref 11), (1, .ref g1), (2, .int v2), (3, .int v3), (4, .int v4), (5, .int v5), (6, .int v6)] [] I L := by
  intro n
  induction n with
  | zero => intro v6 I L p hp; cases hp
  | succ n ih =>
    intro v6 I L
    unfold f_X1_plainMean_10
    refine zo_iload hC dX1_plainMean_10 6 rfl ?_
    refine zo_iload hC dX1_plainMean_12 4 rfl ?_
    refine zo_icmp_ge (tgt := 52) hC dX1_plainMean_14 (by decide) (fun c_1 => ?_) (fun c_1 => ?_)
    · refine zo_sub [0, 1, 2, 3, 4, 5] (lv' := [(0, .ref 11), (1, .ref g1), (2, .int v2), (3, .int v3), (4, .int v4), (5, .int v5)]) rfl ?_
      exact hk52 I L
    · refine zo_aload_n hC dX1_plainMean_17 rfl 0 rfl ?_
      refine zo_aload_n hC dX1_plainMean_18 rfl 1 rfl ?_
      refine zo_aload_n hC dX1_plainMean_19 rfl 1 rfl ?_
      refine zo_iload_n hC dX1_plainMean_20 rfl 2 rfl ?_
      refine zo_iload hC dX1_plainMean_21 4 rfl ?_
      refine zo_iadd hC dX1_plainMean_23 ?_
      refine zo_iload hC dX1_plainMean_24 6 rfl ?_
      refine zo_isub hC dX1_plainMean_26 ?_
      refine zo_callV_i hC (ci := 0) [.int ((v2 + v4) - v6)] [.ref g1, .ref 11] me_X0_batterRound mlX1_51 im_X0_batterRound se_X0_batterRound rfl (by decide) (atG hg1) (fun p hp => T_X0_batterRound g1 hg1 ((v2 + v4) - v6) I L p hp) (by decide) rfl (Nat.le_of_ble_eq_true rfl) dX1_plainMean_27 rfl (fun r_2 => ?_)
      refine zo_iload_n hC dX1_plainMean_30 rfl 3 rfl ?_
      refine zo_iload hC dX1_plainMean_31 4 rfl ?_
      refine zo_iadd hC dX1_plainMean_33 ?_
      refine zo_iload hC dX1_plainMean_34 6 rfl ?_
      refine zo_isub hC dX1_plainMean_36 ?_
      refine zo_callV_vI hC (ci := 1) [.ref g1, .int r_2, .int ((v3 + v4) - v6)] [] me_X1_sendUp mlX1_55 im_X1_sendUp se_X1_sendUp rfl (by decide) at_11 (fun p hp => T_X1_sendUp g1 hg1 r_2 ((v3 + v4) - v6) I L p hp) (by decide) rfl (Nat.le_of_ble_eq_true rfl) dX1_plainMean_37 rfl (fun I_3 => ?_)
      refine zo_aload_n hC dX1_plainMean_40 rfl 0 rfl ?_
      refine zo_iload hC dX1_plainMean_41 6 rfl ?_
      refine zo_callV_vL hC (ci := 1) [.int v6] [] me_X1_fillRow mlX1_59 im_X1_fillRow se_X1_fillRow rfl (by decide) at_11 (fun p hp => T_X1_fillRow v6 I_3 L p hp) (by decide) rfl (Nat.le_of_ble_eq_true rfl) dX1_plainMean_43 rfl (fun L_4 => ?_)
      refine zo_iinc hC (x := v6) (fun x_5 => [(6, .int x_5), (0, .ref 11), (1, .ref g1), (2, .int v2), (3, .int v3), (4, .int v4), (5, .int v5)]) dX1_plainMean_46 6 rfl (by rfl) (by decide) (fun _ => rfl) (fun x_5 => ?_)
      refine zo_goto (tgt := 10) hC dX1_plainMean_49 (by decide) ?_
      refine zo_sub [1, 2, 3, 4, 5, 6, 0] (lv' := [(0, .ref 11), (1, .ref g1), (2, .int v2), (3, .int v3), (4, .int v4), (5, .int v5), (6, .int x_5)]) rfl ?_
      exact ih x_5 I_3 L_4

def f_X1_plainMean (g1 : Nat) (v2 : Int32) (v3 : Int32) (v4 : Int32) (v5 : Int32) (I : e_I) (L : e_L) : Option (Int64 × e_I × e_L) :=
  e_b1 (f_X1_scaleBy 20 L) (fun (L_1 : e_L) =>
  f_X1_plainMean_10 g1 v2 v3 v4 v5 (fun (I_2 : e_I) (L_3 : e_L) =>
    e_b1 (f_X0_batterRound g1 v2 I_2) (fun (r_4 : Int32) =>
    e_b1 (f_X1_sendUp g1 r_4 v3 I_2) (fun (I_5 : e_I) =>
    e_b1 (f_X1_hitMean (v4 - 1) v5 I_5 L_3) (fun (r_6 : Int64) =>
    some (r_6, I_5, L_3))))) e_FU 1 I L_1)
set_option maxRecDepth 100000 in
set_option maxHeartbeats 4000000 in
theorem Zf_X1_plainMean {X : e_X} (hC : e_C X cX1_plainMean RX1 7 (some .long) 3 gN) (g1 : Nat) (hg1 : e_isG g1) (v2 : Int32) (v3 : Int32) (v4 : Int32) (v5 : Int32) (I : e_I) (L : e_L) : Zo X (ph_lIL) (f_X1_plainMean g1 v2 v3 v4 v5 I L) 0 [(0, .ref 11), (1, .ref g1), (2, .int v2), (3, .int v3), (4, .int v4), (5, .int v5)] [] I L := by
  unfold f_X1_plainMean
  refine zo_aload_n hC dX1_plainMean_0 rfl 0 rfl ?_
  refine zo_ldc2 (v := 20) hC clX1_45 dX1_plainMean_1 ?_
  refine zo_callV_vL hC (ci := 1) [.long 20] [] me_X1_scaleBy mlX1_47 im_X1_scaleBy se_X1_scaleBy rfl (by decide) at_11 (fun p hp => T_X1_scaleBy 20 I L p hp) (by decide) rfl (Nat.le_of_ble_eq_true rfl) dX1_plainMean_4 rfl (fun L_1 => ?_)
  refine zo_iconst (v := 1) hC (by decide) dX1_plainMean_7 ?_
  refine zo_istore (lv' := [(6, .int 1), (0, .ref 11), (1, .ref g1), (2, .int v2), (3, .int v3), (4, .int v4), (5, .int v5)]) hC dX1_plainMean_8 (by decide) rfl ?_
  refine zo_sub [1, 2, 3, 4, 5, 6, 0] (lv' := [(0, .ref 11), (1, .ref g1), (2, .int v2), (3, .int v3), (4, .int v4), (5, .int v5), (6, .int 1)]) rfl ?_
  refine Zf_X1_plainMean_10 hC g1 hg1 v2 v3 v4 v5 _ (fun I_2 L_3 => ?_) e_FU 1 I L_1
  · refine zo_aload_n hC dX1_plainMean_52 rfl 0 rfl ?_
    refine zo_aload_n hC dX1_plainMean_53 rfl 1 rfl ?_
    refine zo_aload_n hC dX1_plainMean_54 rfl 1 rfl ?_
    refine zo_iload_n hC dX1_plainMean_55 rfl 2 rfl ?_
    refine zo_callV_i hC (ci := 0) [.int v2] [.ref g1, .ref 11] me_X0_batterRound mlX1_51 im_X0_batterRound se_X0_batterRound rfl (by decide) (atG hg1) (fun p hp => T_X0_batterRound g1 hg1 v2 I_2 L_3 p hp) (by decide) rfl (Nat.le_of_ble_eq_true rfl) dX1_plainMean_56 rfl (fun r_4 => ?_)
    refine zo_iload_n hC dX1_plainMean_59 rfl 3 rfl ?_
    refine zo_callV_vI hC (ci := 1) [.ref g1, .int r_4, .int v3] [] me_X1_sendUp mlX1_55 im_X1_sendUp se_X1_sendUp rfl (by decide) at_11 (fun p hp => T_X1_sendUp g1 hg1 r_4 v3 I_2 L_3 p hp) (by decide) rfl (Nat.le_of_ble_eq_true rfl) dX1_plainMean_60 rfl (fun I_5 => ?_)
    refine zo_aload_n hC dX1_plainMean_63 rfl 0 rfl ?_
    refine zo_iload hC dX1_plainMean_64 4 rfl ?_
    refine zo_iconst (v := 1) hC (by decide) dX1_plainMean_66 ?_
    refine zo_isub hC dX1_plainMean_67 ?_
    refine zo_iload hC dX1_plainMean_68 5 rfl ?_
    refine zo_callV_l hC (ci := 1) [.int (v4 - 1), .int v5] [] me_X1_hitMean mlX1_63 im_X1_hitMean se_X1_hitMean rfl (by decide) at_11 (fun p hp => T_X1_hitMean (v4 - 1) v5 I_5 L_3 p hp) (by decide) rfl (Nat.le_of_ble_eq_true rfl) dX1_plainMean_70 rfl (fun r_6 => ?_)
    exact zo_lret hC rfl dX1_plainMean_73

theorem T_X1_plainMean (g1 : Nat) (hg1 : e_isG g1) (v2 : Int32) (v3 : Int32) (v4 : Int32) (v5 : Int32) (I : e_I) (L : e_L) (p : Int64 × e_I × e_L) (hp : f_X1_plainMean g1 v2 v3 v4 v5 I L = some p) : Mt yX1_plainMean cX1_plainMean 7 (some .long) 3 gN [.ref 11, .ref g1, .int v2, .int v3, .int v4, .int v5] I L ((ph_lIL) p) := zo_enter hp (by decide) (Nat.le_of_ble_eq_true rfl) (fun X hC => Zf_X1_plainMean hC g1 hg1 v2 v3 v4 v5 I L)
def f_X1_unit_19 (L : e_L) (s0 : Int64) : Option (Int64) :=
  some s0
set_option maxRecDepth 100000 in
set_option maxHeartbeats 4000000 in
theorem Zf_X1_unit_19 {X : e_X} (hC : e_C X cX1_unit RX1 2 (some .long) 1 gN) (I : e_I) (L : e_L) (s0 : Int64) : Zo X (ph_l I L) (f_X1_unit_19 L s0) 19 [] [.long s0] I L := by
  unfold f_X1_unit_19
  exact zo_lret hC rfl dX1_unit_19

def f_X1_unit (v1 : Int32) (L : e_L) : Option (Int64) :=
  e_b1 (f_X7_within v1 0 5) (fun (r_1 : Int32) =>
  if r_1 = 0 then (
    f_X1_unit_19 L 1)
  else (
    e_as (e_ix v1 6 = true) (
    f_X1_unit_19 L (L 16 v1.toNatClampNeg))))
set_option maxRecDepth 100000 in
set_option maxHeartbeats 4000000 in
theorem Zf_X1_unit {X : e_X} (hC : e_C X cX1_unit RX1 2 (some .long) 1 gN) (v1 : Int32) (I : e_I) (L : e_L) : Zo X (ph_l I L) (f_X1_unit v1 L) 0 [(0, .ref 11), (1, .int v1)] [] I L := by
  unfold f_X1_unit
  refine zo_iload_n hC dX1_unit_0 rfl 1 rfl ?_
  refine zo_iconst (v := 0) hC (by decide) dX1_unit_1 ?_
  refine zo_iconst (v := 5) hC (by decide) dX1_unit_2 ?_
  refine zo_callSN_i hC [.int v1, .int 0, .int 5] [] me_X7_within (List.mem_of_getElem? (i := 7) rfl) sm_X7_within (fun p hp => T_X7_within v1 0 5 I L p hp) (by decide) rfl (Nat.le_of_ble_eq_true rfl) dX1_unit_3 rfl (fun r_1 => ?_)
  refine zo_if_eq (tgt := 18) hC dX1_unit_6 (by decide) (fun c_2 => ?_) (fun c_2 => ?_)
  · refine zo_lconst (v := 1) hC (by decide) dX1_unit_18 ?_
    refine zo_sub [] (lv' := []) rfl ?_
    exact Zf_X1_unit_19 hC I L 1
  · refine zo_aload_n hC dX1_unit_9 rfl 0 rfl ?_
    refine zo_getR hC (r := 16) fk1_22 (by decide) gr_11_2 at_11 dX1_unit_10 ?_
    refine zo_iload_n hC dX1_unit_13 rfl 1 rfl ?_
    refine zo_as (fun h_3 => ?_)
    refine zo_lald hC ar_16 (e_ix_vp h_3) dX1_unit_14 ?_
    refine zo_goto (tgt := 19) hC dX1_unit_15 (by decide) ?_
    refine zo_sub [] (lv' := []) rfl ?_
    exact Zf_X1_unit_19 hC I L (L 16 v1.toNatClampNeg)

theorem T_X1_unit (v1 : Int32) (I : e_I) (L : e_L) (p : Int64) (hp : f_X1_unit v1 L = some p) : Mt yX1_unit cX1_unit 2 (some .long) 1 gN [.ref 11, .int v1] I L ((ph_l I L) p) := zo_enter hp (by decide) (Nat.le_of_ble_eq_true rfl) (fun X hC => Zf_X1_unit hC v1 I L)
def f_X7_plain (v1 : Int32) (v2 : Int32) (v3 : Int32) (v4 : Int32) (I : e_I) (L : e_L) : Option (Int64 × e_I × e_L) :=
  e_b1 (f_X7_isPart v4) (fun (r_1 : Int32) =>
  e_b1 (f_X7_troubleAhead r_1 v1 v2 v3 I) (fun (r_2 : Int32) =>
  e_b2 (f_X7_refused r_2 I) (fun (r_3 : Int32) (I_4 : e_I) =>
  if r_3 = 0 then (
    e_b1 (f_X0_placeOf 23 (I_4 23 4) I_4) (fun (r_6 : Int32) =>
    e_b1 (f_X7_stateOf v1 v2) (fun (r_7 : Int32) =>
    e_b3 (f_X1_plainMean 23 r_6 (I_4 23 5) v3 r_7 I_4 L) (fun (r_8 : Int64) (I_9 : e_I) (L_10 : e_L) =>
    e_b1 (f_X1_unit v3 L_10) (fun (r_11 : Int64) =>
    e_b1 (f_X7_part r_8 r_11 v4) (fun (r_12 : Int64) =>
    some (r_12, I_9, L_10)))))))
  else (
    some ((-1), I_4, L)))))
set_option maxRecDepth 100000 in
set_option maxHeartbeats 4000000 in
theorem Zf_X7_plain {X : e_X} (hC : e_C X cX7_plain RX7 7 (some .long) 4 gN) (v1 : Int32) (v2 : Int32) (v3 : Int32) (v4 : Int32) (I : e_I) (L : e_L) : Zo X (ph_lIL) (f_X7_plain v1 v2 v3 v4 I L) 0 [(0, .ref 0), (1, .int v1), (2, .int v2), (3, .int v3), (4, .int v4)] [] I L := by
  unfold f_X7_plain
  refine zo_aload_n hC dX7_plain_0 rfl 0 rfl ?_
  refine zo_aload_n hC dX7_plain_1 rfl 0 rfl ?_
  refine zo_iload hC dX7_plain_2 4 rfl ?_
  refine zo_callS_i hC [.int v4] [.ref 0, .ref 0] me_X7_isPart mlX7_200 sm_X7_isPart (fun p hp => T_X7_isPart v4 I L p hp) (by decide) rfl (Nat.le_of_ble_eq_true rfl) dX7_plain_4 rfl (fun r_1 => ?_)
  refine zo_iload_n hC dX7_plain_7 rfl 1 rfl ?_
  refine zo_iload_n hC dX7_plain_8 rfl 2 rfl ?_
  refine zo_iload_n hC dX7_plain_9 rfl 3 rfl ?_
  refine zo_callV_i hC (ci := 7) [.int r_1, .int v1, .int v2, .int v3] [.ref 0] me_X7_troubleAhead mlX7_203 im_X7_troubleAhead se_X7_troubleAhead rfl (by decide) at_0 (fun p hp => T_X7_troubleAhead r_1 v1 v2 v3 I L p hp) (by decide) rfl (Nat.le_of_ble_eq_true rfl) dX7_plain_10 rfl (fun r_2 => ?_)
  refine zo_callV_iI hC (ci := 7) [.int r_2] [] me_X7_refused mlX7_70 im_X7_refused se_X7_refused rfl (by decide) at_0 (fun p hp => T_X7_refused r_2 I L p hp) (by decide) rfl (Nat.le_of_ble_eq_true rfl) dX7_plain_13 rfl (fun r_3 I_4 => ?_)
  refine zo_if_eq (tgt := 23) hC dX7_plain_16 (by decide) (fun c_5 => ?_) (fun c_5 => ?_)
  · refine zo_aload_n hC dX7_plain_23 rfl 0 rfl ?_
    refine zo_getR hC (r := 11) fk7_40 (by decide) gr_0_5 at_0 dX7_plain_24 ?_
    refine zo_aload_n hC dX7_plain_27 rfl 0 rfl ?_
    refine zo_getR hC (r := 23) fk7_23 (by decide) gr_0_2 at_0 dX7_plain_28 ?_
    refine zo_aload_n hC dX7_plain_31 rfl 0 rfl ?_
    refine zo_getR hC (r := 23) fk7_23 (by decide) gr_0_2 at_0 dX7_plain_32 ?_
    refine zo_aload_n hC dX7_plain_35 rfl 0 rfl ?_
    refine zo_getR hC (r := 23) fk7_23 (by decide) gr_0_2 at_0 dX7_plain_36 ?_
    refine zo_getI hC fk7_129 at_23 dX7_plain_39 ?_
    refine zo_callV_i hC (ci := 0) [.int (I_4 23 4)] [.ref 23, .ref 11] me_X0_placeOf mlX7_145 im_X0_placeOf se_X0_placeOf rfl (by decide) at_23 (fun p hp => T_X0_placeOf 23 isG_23 (I_4 23 4) I_4 L p hp) (by decide) rfl (Nat.le_of_ble_eq_true rfl) dX7_plain_42 rfl (fun r_6 => ?_)
    refine zo_aload_n hC dX7_plain_45 rfl 0 rfl ?_
    refine zo_getR hC (r := 23) fk7_23 (by decide) gr_0_2 at_0 dX7_plain_46 ?_
    refine zo_getI hC fk7_132 at_23 dX7_plain_49 ?_
    refine zo_iload_n hC dX7_plain_52 rfl 3 rfl ?_
    refine zo_iload_n hC dX7_plain_53 rfl 1 rfl ?_
    refine zo_iload_n hC dX7_plain_54 rfl 2 rfl ?_
    refine zo_callS_i hC [.int v1, .int v2] [.int v3, .int (I_4 23 5), .int r_6, .ref 23, .ref 11] me_X7_stateOf mlX7_178 sm_X7_stateOf (fun p hp => T_X7_stateOf v1 v2 I_4 L p hp) (by decide) rfl (Nat.le_of_ble_eq_true rfl) dX7_plain_55 rfl (fun r_7 => ?_)
    refine zo_callV_lIL hC (ci := 1) [.ref 23, .int r_6, .int (I_4 23 5), .int v3, .int r_7] [] me_X1_plainMean mlX7_209 im_X1_plainMean se_X1_plainMean rfl (by decide) at_11 (fun p hp => T_X1_plainMean 23 isG_23 r_6 (I_4 23 5) v3 r_7 I_4 L p hp) (by decide) rfl (Nat.le_of_ble_eq_true rfl) dX7_plain_58 rfl (fun r_8 I_9 L_10 => ?_)
    refine zo_lstore (lv' := [(5, .long r_8), (0, .ref 0), (1, .int v1), (2, .int v2), (3, .int v3), (4, .int v4)]) hC dX7_plain_61 (by decide) rfl ?_
    refine zo_lload hC dX7_plain_63 0 rfl ?_
    refine zo_aload_n hC dX7_plain_65 rfl 1 rfl ?_
    refine zo_getR hC (r := 11) fk7_40 (by decide) gr_0_5 at_0 dX7_plain_66 ?_
    refine zo_iload_n hC dX7_plain_69 rfl 4 rfl ?_
    refine zo_callV_l hC (ci := 1) [.int v3] [.long r_8] me_X1_unit mlX7_213 im_X1_unit se_X1_unit rfl (by decide) at_11 (fun p hp => T_X1_unit v3 I_9 L_10 p hp) (by decide) rfl (Nat.le_of_ble_eq_true rfl) dX7_plain_70 rfl (fun r_11 => ?_)
    refine zo_iload hC dX7_plain_73 5 rfl ?_
    refine zo_callS_l hC [.long r_8, .long r_11, .int v4] [] me_X7_part mlX7_217 sm_X7_part (fun p hp => T_X7_part r_8 r_11 v4 I_9 L_10 p hp) (by decide) rfl (Nat.le_of_ble_eq_true rfl) dX7_plain_75 rfl (fun r_12 => ?_)
    exact zo_lret hC rfl dX7_plain_78
  · refine zo_ldc2 (v := (-1)) hC clX7_207 dX7_plain_19 ?_
    exact zo_lret hC rfl dX7_plain_22

theorem T_X7_plain (v1 : Int32) (v2 : Int32) (v3 : Int32) (v4 : Int32) (I : e_I) (L : e_L) (p : Int64 × e_I × e_L) (hp : f_X7_plain v1 v2 v3 v4 I L = some p) : Mt yX7_plain cX7_plain 7 (some .long) 4 gN [.ref 0, .int v1, .int v2, .int v3, .int v4] I L ((ph_lIL) p) := zo_enter hp (by decide) (Nat.le_of_ble_eq_true rfl) (fun X hC => Zf_X7_plain hC v1 v2 v3 v4 I L)
def f_X1_oddsOfRun (g1 : Nat) (v2 : Int32) (v3 : Int32) (v4 : Int32) (v5 : Int32) (I : e_I) (L : e_L) : Option (Int64 × e_I × e_L) :=
  e_let (e_ui I 11 5 1) (fun (I_1 : e_I) =>
  e_b3 (f_X1_plainMean g1 v2 v3 v4 v5 I_1 L) (fun (r_2 : Int64) (I_3 : e_I) (L_4 : e_L) =>
  e_let (e_ui I_3 11 5 0) (fun (I_5 : e_I) =>
  some (r_2, I_5, L_4))))
set_option maxRecDepth 100000 in
set_option maxHeartbeats 4000000 in
theorem Zf_X1_oddsOfRun {X : e_X} (hC : e_C X cX1_oddsOfRun RX1 8 (some .long) 4 gN) (g1 : Nat) (hg1 : e_isG g1) (v2 : Int32) (v3 : Int32) (v4 : Int32) (v5 : Int32) (I : e_I) (L : e_L) : Zo X (ph_lIL) (f_X1_oddsOfRun g1 v2 v3 v4 v5 I L) 0 [(0, .ref 11), (1, .ref g1), (2, .int v2), (3, .int v3), (4, .int v4), (5, .int v5)] [] I L := by
  unfold f_X1_oddsOfRun
  refine zo_aload_n hC dX1_oddsOfRun_0 rfl 0 rfl ?_
  refine zo_iconst (v := 1) hC (by decide) dX1_oddsOfRun_1 ?_
  refine zo_putZ hC fk1_67 ff1_5 (by decide) at_11 dX1_oddsOfRun_2 ?_
  refine zo_topI (fun I_1 => ?_)
  refine zo_aload_n hC dX1_oddsOfRun_5 rfl 0 rfl ?_
  refine zo_aload_n hC dX1_oddsOfRun_6 rfl 1 rfl ?_
  refine zo_iload_n hC dX1_oddsOfRun_7 rfl 2 rfl ?_
  refine zo_iload_n hC dX1_oddsOfRun_8 rfl 3 rfl ?_
  refine zo_iload hC dX1_oddsOfRun_9 4 rfl ?_
  refine zo_iload hC dX1_oddsOfRun_11 5 rfl ?_
  refine zo_callV_lIL hC (ci := 1) [.ref g1, .int v2, .int v3, .int v4, .int v5] [] me_X1_plainMean mlX1_71 im_X1_plainMean se_X1_plainMean rfl (by decide) at_11 (fun p hp => T_X1_plainMean g1 hg1 v2 v3 v4 v5 I_1 L p hp) (by decide) rfl (Nat.le_of_ble_eq_true rfl) dX1_oddsOfRun_13 rfl (fun r_2 I_3 L_4 => ?_)
  refine zo_lstore (lv' := [(6, .long r_2), (0, .ref 11), (1, .ref g1), (2, .int v2), (3, .int v3), (4, .int v4), (5, .int v5)]) hC dX1_oddsOfRun_16 (by decide) rfl ?_
  refine zo_aload_n hC dX1_oddsOfRun_18 rfl 1 rfl ?_
  refine zo_iconst (v := 0) hC (by decide) dX1_oddsOfRun_19 ?_
  refine zo_putZ hC fk1_67 ff1_5 (by decide) at_11 dX1_oddsOfRun_20 ?_
  refine zo_topI (fun I_5 => ?_)
  refine zo_lload hC dX1_oddsOfRun_23 0 rfl ?_
  exact zo_lret hC rfl dX1_oddsOfRun_25

theorem T_X1_oddsOfRun (g1 : Nat) (hg1 : e_isG g1) (v2 : Int32) (v3 : Int32) (v4 : Int32) (v5 : Int32) (I : e_I) (L : e_L) (p : Int64 × e_I × e_L) (hp : f_X1_oddsOfRun g1 v2 v3 v4 v5 I L = some p) : Mt yX1_oddsOfRun cX1_oddsOfRun 8 (some .long) 4 gN [.ref 11, .ref g1, .int v2, .int v3, .int v4, .int v5] I L ((ph_lIL) p) := zo_enter hp (by decide) (Nat.le_of_ble_eq_true rfl) (fun X hC => Zf_X1_oddsOfRun hC g1 hg1 v2 v3 v4 v5 I L)
def f_X7_any (v1 : Int32) (v2 : Int32) (v3 : Int32) (v4 : Int32) (I : e_I) (L : e_L) : Option (Int64 × e_I × e_L) :=
  e_b1 (f_X7_isPart v4) (fun (r_1 : Int32) =>
  e_b1 (f_X7_troubleAhead r_1 v1 v2 v3 I) (fun (r_2 : Int32) =>
  e_b2 (f_X7_refused r_2 I) (fun (r_3 : Int32) (I_4 : e_I) =>
  if r_3 = 0 then (
    e_b1 (f_X0_placeOf 23 (I_4 23 4) I_4) (fun (r_6 : Int32) =>
    e_b1 (f_X7_stateOf v1 v2) (fun (r_7 : Int32) =>
    e_b3 (f_X1_oddsOfRun 23 r_6 (I_4 23 5) v3 r_7 I_4 L) (fun (r_8 : Int64) (I_9 : e_I) (L_10 : e_L) =>
    e_b1 (f_X1_unit v3 L_10) (fun (r_11 : Int64) =>
    e_b1 (f_X7_part r_8 r_11 v4) (fun (r_12 : Int64) =>
    some (r_12, I_9, L_10)))))))
  else (
    some ((-1), I_4, L)))))
set_option maxRecDepth 100000 in
set_option maxHeartbeats 4000000 in
theorem Zf_X7_any {X : e_X} (hC : e_C X cX7_any RX7 7 (some .long) 5 gN) (v1 : Int32) (v2 : Int32) (v3 : Int32) (v4 : Int32) (I : e_I) (L : e_L) : Zo X (ph_lIL) (f_X7_any v1 v2 v3 v4 I L) 0 [(0, .ref 0), (1, .int v1), (2, .int v2), (3, .int v3), (4, .int v4)] [] I L := by
  unfold f_X7_any
  refine zo_aload_n hC dX7_any_0 rfl 0 rfl ?_
  refine zo_aload_n hC dX7_any_1 rfl 0 rfl ?_
  refine zo_iload hC dX7_any_2 4 rfl ?_
  refine zo_callS_i hC [.int v4] [.ref 0, .ref 0] me_X7_isPart mlX7_200 sm_X7_isPart (fun p hp => T_X7_isPart v4 I L p hp) (by decide) rfl (Nat.le_of_ble_eq_true rfl) dX7_any_4 rfl (fun r_1 => ?_)
  refine zo_iload_n hC dX7_any_7 rfl 1 rfl ?_
  refine zo_iload_n hC dX7_any_8 rfl 2 rfl ?_
  refine zo_iload_n hC dX7_any_9 rfl 3 rfl ?_
  refine zo_callV_i hC (ci := 7) [.int r_1, .int v1, .int v2, .int v3] [.ref 0] me_X7_troubleAhead mlX7_203 im_X7_troubleAhead se_X7_troubleAhead rfl (by decide) at_0 (fun p hp => T_X7_troubleAhead r_1 v1 v2 v3 I L p hp) (by decide) rfl (Nat.le_of_ble_eq_true rfl) dX7_any_10 rfl (fun r_2 => ?_)
  refine zo_callV_iI hC (ci := 7) [.int r_2] [] me_X7_refused mlX7_70 im_X7_refused se_X7_refused rfl (by decide) at_0 (fun p hp => T_X7_refused r_2 I L p hp) (by decide) rfl (Nat.le_of_ble_eq_true rfl) dX7_any_13 rfl (fun r_3 I_4 => ?_)
  refine zo_if_eq (tgt := 23) hC dX7_any_16 (by decide) (fun c_5 => ?_) (fun c_5 => ?_)
  · refine zo_aload_n hC dX7_any_23 rfl 0 rfl ?_
    refine zo_getR hC (r := 11) fk7_40 (by decide) gr_0_5 at_0 dX7_any_24 ?_
    refine zo_aload_n hC dX7_any_27 rfl 0 rfl ?_
    refine zo_getR hC (r := 23) fk7_23 (by decide) gr_0_2 at_0 dX7_any_28 ?_
    refine zo_aload_n hC dX7_any_31 rfl 0 rfl ?_
    refine zo_getR hC (r := 23) fk7_23 (by decide) gr_0_2 at_0 dX7_any_32 ?_
    refine zo_aload_n hC dX7_any_35 rfl 0 rfl ?_
    refine zo_getR hC (r := 23) fk7_23 (by decide) gr_0_2 at_0 dX7_any_36 ?_
    refine zo_getI hC fk7_129 at_23 dX7_any_39 ?_
    refine zo_callV_i hC (ci := 0) [.int (I_4 23 4)] [.ref 23, .ref 11] me_X0_placeOf mlX7_145 im_X0_placeOf se_X0_placeOf rfl (by decide) at_23 (fun p hp => T_X0_placeOf 23 isG_23 (I_4 23 4) I_4 L p hp) (by decide) rfl (Nat.le_of_ble_eq_true rfl) dX7_any_42 rfl (fun r_6 => ?_)
    refine zo_aload_n hC dX7_any_45 rfl 0 rfl ?_
    refine zo_getR hC (r := 23) fk7_23 (by decide) gr_0_2 at_0 dX7_any_46 ?_
    refine zo_getI hC fk7_132 at_23 dX7_any_49 ?_
    refine zo_iload_n hC dX7_any_52 rfl 3 rfl ?_
    refine zo_iload_n hC dX7_any_53 rfl 1 rfl ?_
    refine zo_iload_n hC dX7_any_54 rfl 2 rfl ?_
    refine zo_callS_i hC [.int v1, .int v2] [.int v3, .int (I_4 23 5), .int r_6, .ref 23, .ref 11] me_X7_stateOf mlX7_178 sm_X7_stateOf (fun p hp => T_X7_stateOf v1 v2 I_4 L p hp) (by decide) rfl (Nat.le_of_ble_eq_true rfl) dX7_any_55 rfl (fun r_7 => ?_)
    refine zo_callV_lIL hC (ci := 1) [.ref 23, .int r_6, .int (I_4 23 5), .int v3, .int r_7] [] me_X1_oddsOfRun mlX7_221 im_X1_oddsOfRun se_X1_oddsOfRun rfl (by decide) at_11 (fun p hp => T_X1_oddsOfRun 23 isG_23 r_6 (I_4 23 5) v3 r_7 I_4 L p hp) (by decide) rfl (Nat.le_of_ble_eq_true rfl) dX7_any_58 rfl (fun r_8 I_9 L_10 => ?_)
    refine zo_lstore (lv' := [(5, .long r_8), (0, .ref 0), (1, .int v1), (2, .int v2), (3, .int v3), (4, .int v4)]) hC dX7_any_61 (by decide) rfl ?_
    refine zo_lload hC dX7_any_63 0 rfl ?_
    refine zo_aload_n hC dX7_any_65 rfl 1 rfl ?_
    refine zo_getR hC (r := 11) fk7_40 (by decide) gr_0_5 at_0 dX7_any_66 ?_
    refine zo_iload_n hC dX7_any_69 rfl 4 rfl ?_
    refine zo_callV_l hC (ci := 1) [.int v3] [.long r_8] me_X1_unit mlX7_213 im_X1_unit se_X1_unit rfl (by decide) at_11 (fun p hp => T_X1_unit v3 I_9 L_10 p hp) (by decide) rfl (Nat.le_of_ble_eq_true rfl) dX7_any_70 rfl (fun r_11 => ?_)
    refine zo_iload hC dX7_any_73 5 rfl ?_
    refine zo_callS_l hC [.long r_8, .long r_11, .int v4] [] me_X7_part mlX7_217 sm_X7_part (fun p hp => T_X7_part r_8 r_11 v4 I_9 L_10 p hp) (by decide) rfl (Nat.le_of_ble_eq_true rfl) dX7_any_75 rfl (fun r_12 => ?_)
    exact zo_lret hC rfl dX7_any_78
  · refine zo_ldc2 (v := (-1)) hC clX7_207 dX7_any_19 ?_
    exact zo_lret hC rfl dX7_any_22

theorem T_X7_any (v1 : Int32) (v2 : Int32) (v3 : Int32) (v4 : Int32) (I : e_I) (L : e_L) (p : Int64 × e_I × e_L) (hp : f_X7_any v1 v2 v3 v4 I L = some p) : Mt yX7_any cX7_any 7 (some .long) 5 gN [.ref 0, .int v1, .int v2, .int v3, .int v4] I L ((ph_lIL) p) := zo_enter hp (by decide) (Nat.le_of_ble_eq_true rfl) (fun X hC => Zf_X7_any hC v1 v2 v3 v4 I L)
def f_X1_buntMean_42 (I : e_I) (L : e_L) (s0 : Int64) : Option (Int64) :=
  some s0
set_option maxRecDepth 100000 in
set_option maxHeartbeats 4000000 in
theorem Zf_X1_buntMean_42 {X : e_X} (hC : e_C X cX1_buntMean RX1 4 (some .long) 1 gN) (I : e_I) (L : e_L) (s0 : Int64) : Zo X (ph_l I L) (f_X1_buntMean_42 I L s0) 42 [] [.long s0] I L := by
  unfold f_X1_buntMean_42
  exact zo_lret hC rfl dX1_buntMean_42

def f_X1_buntMean (v1 : Int32) (v2 : Int32) (I : e_I) (L : e_L) : Option (Int64) :=
  e_b1 (f_X2_behind 6 v2 I) (fun (r_1 : Int32) =>
  if r_1 ≠ (-1) then (
    e_b1 (f_X2_runsBy 6 v2 I) (fun (r_3 : Int32) =>
    e_b1 (f_X1_gain v1 r_3 r_1 I L) (fun (r_4 : Int64) =>
    f_X1_buntMean_42 I L ((20 : Int64) * r_4))))
  else (
    f_X1_buntMean_42 I L (-1)))
set_option maxRecDepth 100000 in
set_option maxHeartbeats 4000000 in
theorem Zf_X1_buntMean {X : e_X} (hC : e_C X cX1_buntMean RX1 4 (some .long) 1 gN) (v1 : Int32) (v2 : Int32) (I : e_I) (L : e_L) : Zo X (ph_l I L) (f_X1_buntMean v1 v2 I L) 0 [(0, .ref 11), (1, .int v1), (2, .int v2)] [] I L := by
  unfold f_X1_buntMean
  refine zo_aload_n hC dX1_buntMean_0 rfl 0 rfl ?_
  refine zo_getR hC (r := 12) fk1_12 (by decide) gr_11_0 at_11 dX1_buntMean_1 ?_
  refine zo_bipush (v := 6) hC (by decide) dX1_buntMean_4 ?_
  refine zo_iload_n hC dX1_buntMean_6 rfl 2 rfl ?_
  refine zo_callV_i hC (ci := 2) [.int 6, .int v2] [] me_X2_behind mlX1_99 im_X2_behind se_X2_behind rfl (by decide) at_12 (fun p hp => T_X2_behind 6 v2 I L p hp) (by decide) rfl (Nat.le_of_ble_eq_true rfl) dX1_buntMean_7 rfl (fun r_1 => ?_)
  refine zo_istore_n (lv' := [(3, .int r_1), (0, .ref 11), (1, .int v1), (2, .int v2)]) hC dX1_buntMean_10 rfl (by decide) rfl ?_
  refine zo_iload_n hC dX1_buntMean_11 rfl 0 rfl ?_
  refine zo_iconst (v := (-1)) hC (by decide) dX1_buntMean_12 ?_
  refine zo_icmp_ne (tgt := 22) hC dX1_buntMean_13 (by decide) (fun c_2 => ?_) (fun c_2 => ?_)
  · refine zo_ldc2 (v := 20) hC clX1_45 dX1_buntMean_22 ?_
    refine zo_aload_n hC dX1_buntMean_25 rfl 1 rfl ?_
    refine zo_iload_n hC dX1_buntMean_26 rfl 2 rfl ?_
    refine zo_aload_n hC dX1_buntMean_27 rfl 1 rfl ?_
    refine zo_getR hC (r := 12) fk1_12 (by decide) gr_11_0 at_11 dX1_buntMean_28 ?_
    refine zo_bipush (v := 6) hC (by decide) dX1_buntMean_31 ?_
    refine zo_iload_n hC dX1_buntMean_33 rfl 3 rfl ?_
    refine zo_callV_i hC (ci := 2) [.int 6, .int v2] [.int v1, .ref 11, .long 20] me_X2_runsBy mlX1_104 im_X2_runsBy se_X2_runsBy rfl (by decide) at_12 (fun p hp => T_X2_runsBy 6 v2 I L p hp) (by decide) rfl (Nat.le_of_ble_eq_true rfl) dX1_buntMean_34 rfl (fun r_3 => ?_)
    refine zo_iload_n hC dX1_buntMean_37 rfl 0 rfl ?_
    refine zo_callV_l hC (ci := 1) [.int v1, .int r_3, .int r_1] [.long 20] me_X1_gain mlX1_95 im_X1_gain se_X1_gain rfl (by decide) at_11 (fun p hp => T_X1_gain v1 r_3 r_1 I L p hp) (by decide) rfl (Nat.le_of_ble_eq_true rfl) dX1_buntMean_38 rfl (fun r_4 => ?_)
    refine zo_lmul hC dX1_buntMean_41 ?_
    refine zo_sub [] (lv' := []) rfl ?_
    exact Zf_X1_buntMean_42 hC I L ((20 : Int64) * r_4)
  · refine zo_ldc2 (v := (-1)) hC clX1_102 dX1_buntMean_16 ?_
    refine zo_goto (tgt := 42) hC dX1_buntMean_19 (by decide) ?_
    refine zo_sub [] (lv' := []) rfl ?_
    exact Zf_X1_buntMean_42 hC I L (-1)

theorem T_X1_buntMean (v1 : Int32) (v2 : Int32) (I : e_I) (L : e_L) (p : Int64) (hp : f_X1_buntMean v1 v2 I L = some p) : Mt yX1_buntMean cX1_buntMean 4 (some .long) 1 gN [.ref 11, .int v1, .int v2] I L ((ph_l I L) p) := zo_enter hp (by decide) (Nat.le_of_ble_eq_true rfl) (fun X hC => Zf_X1_buntMean hC v1 v2 I L)
def f_X1_stealMean (v1 : Int64) (v3 : Int64) (I : e_I) : Option (Int64) :=
  some ((((I 11 6).toInt64) * v1) + ((((20 : Int32) - (I 11 6)).toInt64) * v3))
set_option maxRecDepth 100000 in
set_option maxHeartbeats 4000000 in
theorem Zf_X1_stealMean {X : e_X} (hC : e_C X cX1_stealMean RX1 5 (some .long) 0 gN) (v1 : Int64) (v3 : Int64) (I : e_I) (L : e_L) : Zo X (ph_l I L) (f_X1_stealMean v1 v3 I) 0 [(0, .ref 11), (1, .long v1), (3, .long v3)] [] I L := by
  unfold f_X1_stealMean
  refine zo_aload_n hC dX1_stealMean_0 rfl 0 rfl ?_
  refine zo_getI hC fk1_109 at_11 dX1_stealMean_1 ?_
  refine zo_i2l hC dX1_stealMean_4 ?_
  refine zo_lload_n hC dX1_stealMean_5 rfl 1 rfl ?_
  refine zo_lmul hC dX1_stealMean_6 ?_
  refine zo_bipush (v := 20) hC (by decide) dX1_stealMean_7 ?_
  refine zo_aload_n hC dX1_stealMean_9 rfl 0 rfl ?_
  refine zo_getI hC fk1_109 at_11 dX1_stealMean_10 ?_
  refine zo_isub hC dX1_stealMean_13 ?_
  refine zo_i2l hC dX1_stealMean_14 ?_
  refine zo_lload_n hC dX1_stealMean_15 rfl 2 rfl ?_
  refine zo_lmul hC dX1_stealMean_16 ?_
  refine zo_ladd hC dX1_stealMean_17 ?_
  exact zo_lret hC rfl dX1_stealMean_18

theorem T_X1_stealMean (v1 : Int64) (v3 : Int64) (I : e_I) (L : e_L) (p : Int64) (hp : f_X1_stealMean v1 v3 I = some p) : Mt yX1_stealMean cX1_stealMean 5 (some .long) 0 gN [.ref 11, .long v1, .long v3] I L ((ph_l I L) p) := zo_enter hp (by decide) (Nat.le_of_ble_eq_true rfl) (fun X hC => Zf_X1_stealMean hC v1 v3 I L)
def f_X1_swingMean_25 (I : e_I) (L : e_L) (s0 : Int64) : Option (Int64) :=
  some s0
set_option maxRecDepth 100000 in
set_option maxHeartbeats 4000000 in
theorem Zf_X1_swingMean_25 {X : e_X} (hC : e_C X cX1_swingMean RX1 3 (some .long) 2 gN) (I : e_I) (L : e_L) (s0 : Int64) : Zo X (ph_l I L) (f_X1_swingMean_25 I L s0) 25 [] [.long s0] I L := by
  unfold f_X1_swingMean_25
  exact zo_lret hC rfl dX1_swingMean_25

def f_X1_swingMean (v1 : Int32) (v2 : Int32) (I : e_I) (L : e_L) : Option (Int64) :=
  if v2 ≠ 24 then (
    e_b1 (f_X1_hitMean v1 v2 I L) (fun (r_2 : Int64) =>
    e_b1 (f_X1_buntMean v1 v2 I L) (fun (r_3 : Int64) =>
    f_X1_swingMean_25 I L (e_maxl r_2 r_3))))
  else (
    f_X1_swingMean_25 I L 0)
set_option maxRecDepth 100000 in
set_option maxHeartbeats 4000000 in
theorem Zf_X1_swingMean {X : e_X} (hC : e_C X cX1_swingMean RX1 3 (some .long) 2 gN) (v1 : Int32) (v2 : Int32) (I : e_I) (L : e_L) : Zo X (ph_l I L) (f_X1_swingMean v1 v2 I L) 0 [(0, .ref 11), (1, .int v1), (2, .int v2)] [] I L := by
  unfold f_X1_swingMean
  refine zo_iload_n hC dX1_swingMean_0 rfl 2 rfl ?_
  refine zo_bipush (v := 24) hC (by decide) dX1_swingMean_1 ?_
  refine zo_icmp_ne (tgt := 10) hC dX1_swingMean_3 (by decide) (fun c_1 => ?_) (fun c_1 => ?_)
  · refine zo_aload_n hC dX1_swingMean_10 rfl 0 rfl ?_
    refine zo_iload_n hC dX1_swingMean_11 rfl 1 rfl ?_
    refine zo_iload_n hC dX1_swingMean_12 rfl 2 rfl ?_
    refine zo_callV_l hC (ci := 1) [.int v1, .int v2] [] me_X1_hitMean mlX1_63 im_X1_hitMean se_X1_hitMean rfl (by decide) at_11 (fun p hp => T_X1_hitMean v1 v2 I L p hp) (by decide) rfl (Nat.le_of_ble_eq_true rfl) dX1_swingMean_13 rfl (fun r_2 => ?_)
    refine zo_aload_n hC dX1_swingMean_16 rfl 0 rfl ?_
    refine zo_iload_n hC dX1_swingMean_17 rfl 1 rfl ?_
    refine zo_iload_n hC dX1_swingMean_18 rfl 2 rfl ?_
    refine zo_callV_l hC (ci := 1) [.int v1, .int v2] [.long r_2] me_X1_buntMean mlX1_146 im_X1_buntMean se_X1_buntMean rfl (by decide) at_11 (fun p hp => T_X1_buntMean v1 v2 I L p hp) (by decide) rfl (Nat.le_of_ble_eq_true rfl) dX1_swingMean_19 rfl (fun r_3 => ?_)
    refine zo_mmaxl_ hC mlX1_141 st_mmaxl in_Math cd_mmaxl (Nat.le_of_ble_eq_true rfl) dX1_swingMean_22 ?_
    refine zo_sub [] (lv' := []) rfl ?_
    exact Zf_X1_swingMean_25 hC I L (e_maxl r_2 r_3)
  · refine zo_lconst (v := 0) hC (by decide) dX1_swingMean_6 ?_
    refine zo_goto (tgt := 25) hC dX1_swingMean_7 (by decide) ?_
    refine zo_sub [] (lv' := []) rfl ?_
    exact Zf_X1_swingMean_25 hC I L 0

theorem T_X1_swingMean (v1 : Int32) (v2 : Int32) (I : e_I) (L : e_L) (p : Int64) (hp : f_X1_swingMean v1 v2 I L = some p) : Mt yX1_swingMean cX1_swingMean 3 (some .long) 2 gN [.ref 11, .int v1, .int v2] I L ((ph_l I L) p) := zo_enter hp (by decide) (Nat.le_of_ble_eq_true rfl) (fun X hC => Zf_X1_swingMean hC v1 v2 I L)
def f_X1_meanBy (v1 : Int32) (v2 : Int32) (I : e_I) (L : e_L) : Option (Int64) :=
  if v1 ≠ 0 then (
    if v1 ≠ 1 then (
      e_b1 (f_X2_can 7 v2 I) (fun (r_3 : Int32) =>
      if r_3 ≠ 0 then (
        e_b1 (f_X2_behind 7 v2 I) (fun (r_5 : Int32) =>
        e_b1 (f_X1_swingMean (I 11 7) r_5 I L) (fun (r_6 : Int64) =>
        e_b1 (f_X2_behind 8 v2 I) (fun (r_7 : Int32) =>
        e_b1 (f_X1_swingMean (I 11 7) r_7 I L) (fun (r_8 : Int64) =>
        e_b1 (f_X1_stealMean r_6 r_8 I) (fun (r_9 : Int64) =>
        some r_9))))))
      else (
        some (-1))))
    else (
      e_b1 (f_X1_buntMean (I 11 7) v2 I L) (fun (r_10 : Int64) =>
      some ((20 : Int64) * r_10))))
  else (
    e_b1 (f_X1_hitMean (I 11 7) v2 I L) (fun (r_11 : Int64) =>
    some ((20 : Int64) * r_11)))
set_option maxRecDepth 100000 in
set_option maxHeartbeats 4000000 in
theorem Zf_X1_meanBy {X : e_X} (hC : e_C X cX1_meanBy RX1 5 (some .long) 3 gN) (v1 : Int32) (v2 : Int32) (I : e_I) (L : e_L) : Zo X (ph_l I L) (f_X1_meanBy v1 v2 I L) 0 [(0, .ref 11), (1, .int v1), (2, .int v2)] [] I L := by
  unfold f_X1_meanBy
  refine zo_iload_n hC dX1_meanBy_0 rfl 1 rfl ?_
  refine zo_if_ne (tgt := 18) hC dX1_meanBy_1 (by decide) (fun c_1 => ?_) (fun c_1 => ?_)
  · refine zo_iload_n hC dX1_meanBy_18 rfl 1 rfl ?_
    refine zo_iconst (v := 1) hC (by decide) dX1_meanBy_19 ?_
    refine zo_icmp_ne (tgt := 37) hC dX1_meanBy_20 (by decide) (fun c_2 => ?_) (fun c_2 => ?_)
    · refine zo_aload_n hC dX1_meanBy_37 rfl 0 rfl ?_
      refine zo_getR hC (r := 12) fk1_12 (by decide) gr_11_0 at_11 dX1_meanBy_38 ?_
      refine zo_bipush (v := 7) hC (by decide) dX1_meanBy_41 ?_
      refine zo_iload_n hC dX1_meanBy_43 rfl 2 rfl ?_
      refine zo_callV_i hC (ci := 2) [.int 7, .int v2] [] me_X2_can mlX1_130 im_X2_can se_X2_can rfl (by decide) at_12 (fun p hp => T_X2_can 7 v2 I L p hp) (by decide) rfl (Nat.le_of_ble_eq_true rfl) dX1_meanBy_44 rfl (fun r_3 => ?_)
      refine zo_if_ne (tgt := 54) hC dX1_meanBy_47 (by decide) (fun c_4 => ?_) (fun c_4 => ?_)
      · refine zo_aload_n hC dX1_meanBy_54 rfl 0 rfl ?_
        refine zo_aload_n hC dX1_meanBy_55 rfl 0 rfl ?_
        refine zo_getI hC fk1_124 at_11 dX1_meanBy_56 ?_
        refine zo_aload_n hC dX1_meanBy_59 rfl 0 rfl ?_
        refine zo_getR hC (r := 12) fk1_12 (by decide) gr_11_0 at_11 dX1_meanBy_60 ?_
        refine zo_bipush (v := 7) hC (by decide) dX1_meanBy_63 ?_
        refine zo_iload_n hC dX1_meanBy_65 rfl 2 rfl ?_
        refine zo_callV_i hC (ci := 2) [.int 7, .int v2] [.int (I 11 7), .ref 11] me_X2_behind mlX1_99 im_X2_behind se_X2_behind rfl (by decide) at_12 (fun p hp => T_X2_behind 7 v2 I L p hp) (by decide) rfl (Nat.le_of_ble_eq_true rfl) dX1_meanBy_66 rfl (fun r_5 => ?_)
        refine zo_callV_l hC (ci := 1) [.int (I 11 7), .int r_5] [] me_X1_swingMean mlX1_127 im_X1_swingMean se_X1_swingMean rfl (by decide) at_11 (fun p hp => T_X1_swingMean (I 11 7) r_5 I L p hp) (by decide) rfl (Nat.le_of_ble_eq_true rfl) dX1_meanBy_69 rfl (fun r_6 => ?_)
        refine zo_lstore_n (lv' := [(3, .long r_6), (0, .ref 11), (1, .int v1), (2, .int v2)]) hC dX1_meanBy_72 rfl (by decide) rfl ?_
        refine zo_aload_n hC dX1_meanBy_73 rfl 1 rfl ?_
        refine zo_lload_n hC dX1_meanBy_74 rfl 0 rfl ?_
        refine zo_aload_n hC dX1_meanBy_75 rfl 1 rfl ?_
        refine zo_aload_n hC dX1_meanBy_76 rfl 1 rfl ?_
        refine zo_getI hC fk1_124 at_11 dX1_meanBy_77 ?_
        refine zo_aload_n hC dX1_meanBy_80 rfl 1 rfl ?_
        refine zo_getR hC (r := 12) fk1_12 (by decide) gr_11_0 at_11 dX1_meanBy_81 ?_
        refine zo_bipush (v := 8) hC (by decide) dX1_meanBy_84 ?_
        refine zo_iload_n hC dX1_meanBy_86 rfl 3 rfl ?_
        refine zo_callV_i hC (ci := 2) [.int 8, .int v2] [.int (I 11 7), .ref 11, .long r_6, .ref 11] me_X2_behind mlX1_99 im_X2_behind se_X2_behind rfl (by decide) at_12 (fun p hp => T_X2_behind 8 v2 I L p hp) (by decide) rfl (Nat.le_of_ble_eq_true rfl) dX1_meanBy_87 rfl (fun r_7 => ?_)
        refine zo_callV_l hC (ci := 1) [.int (I 11 7), .int r_7] [.long r_6, .ref 11] me_X1_swingMean mlX1_127 im_X1_swingMean se_X1_swingMean rfl (by decide) at_11 (fun p hp => T_X1_swingMean (I 11 7) r_7 I L p hp) (by decide) rfl (Nat.le_of_ble_eq_true rfl) dX1_meanBy_90 rfl (fun r_8 => ?_)
        refine zo_callV_l hC (ci := 1) [.long r_6, .long r_8] [] me_X1_stealMean mlX1_137 im_X1_stealMean se_X1_stealMean rfl (by decide) at_11 (fun p hp => T_X1_stealMean r_6 r_8 I L p hp) (by decide) rfl (Nat.le_of_ble_eq_true rfl) dX1_meanBy_93 rfl (fun r_9 => ?_)
        exact zo_lret hC rfl dX1_meanBy_96
      · refine zo_ldc2 (v := (-1)) hC clX1_102 dX1_meanBy_50 ?_
        exact zo_lret hC rfl dX1_meanBy_53
    · refine zo_ldc2 (v := 20) hC clX1_45 dX1_meanBy_23 ?_
      refine zo_aload_n hC dX1_meanBy_26 rfl 0 rfl ?_
      refine zo_aload_n hC dX1_meanBy_27 rfl 0 rfl ?_
      refine zo_getI hC fk1_124 at_11 dX1_meanBy_28 ?_
      refine zo_iload_n hC dX1_meanBy_31 rfl 2 rfl ?_
      refine zo_callV_l hC (ci := 1) [.int (I 11 7), .int v2] [.long 20] me_X1_buntMean mlX1_146 im_X1_buntMean se_X1_buntMean rfl (by decide) at_11 (fun p hp => T_X1_buntMean (I 11 7) v2 I L p hp) (by decide) rfl (Nat.le_of_ble_eq_true rfl) dX1_meanBy_32 rfl (fun r_10 => ?_)
      refine zo_lmul hC dX1_meanBy_35 ?_
      exact zo_lret hC rfl dX1_meanBy_36
  · refine zo_ldc2 (v := 20) hC clX1_45 dX1_meanBy_4 ?_
    refine zo_aload_n hC dX1_meanBy_7 rfl 0 rfl ?_
    refine zo_aload_n hC dX1_meanBy_8 rfl 0 rfl ?_
    refine zo_getI hC fk1_124 at_11 dX1_meanBy_9 ?_
    refine zo_iload_n hC dX1_meanBy_12 rfl 2 rfl ?_
    refine zo_callV_l hC (ci := 1) [.int (I 11 7), .int v2] [.long 20] me_X1_hitMean mlX1_63 im_X1_hitMean se_X1_hitMean rfl (by decide) at_11 (fun p hp => T_X1_hitMean (I 11 7) v2 I L p hp) (by decide) rfl (Nat.le_of_ble_eq_true rfl) dX1_meanBy_13 rfl (fun r_11 => ?_)
    refine zo_lmul hC dX1_meanBy_16 ?_
    exact zo_lret hC rfl dX1_meanBy_17

theorem T_X1_meanBy (v1 : Int32) (v2 : Int32) (I : e_I) (L : e_L) (p : Int64) (hp : f_X1_meanBy v1 v2 I L = some p) : Mt yX1_meanBy cX1_meanBy 5 (some .long) 3 gN [.ref 11, .int v1, .int v2] I L ((ph_l I L) p) := zo_enter hp (by decide) (Nat.le_of_ble_eq_true rfl) (fun X hC => Zf_X1_meanBy hC v1 v2 I L)
def f_X1_swingIn_21 (I : e_I) (L : e_L) (s0 : Int32) : Option (Int32) :=
  some s0
set_option maxRecDepth 100000 in
set_option maxHeartbeats 4000000 in
theorem Zf_X1_swingIn_21 {X : e_X} (hC : e_C X cX1_swingIn RX1 2 (some .int) 4 gN) (I : e_I) (L : e_L) (s0 : Int32) : Zo X (ph_i I L) (f_X1_swingIn_21 I L s0) 21 [] [.int s0] I L := by
  unfold f_X1_swingIn_21
  exact zo_iret hC rfl dX1_swingIn_21

def f_X1_swingIn (v1 : Int32) (I : e_I) (L : e_L) : Option (Int32) :=
  e_b1 (f_X1_meanBy 1 v1 I L) (fun (r_1 : Int64) =>
  e_b1 (f_X1_meanBy 0 v1 I L) (fun (r_2 : Int64) =>
  if (lg_cmp r_1 r_2) ≤ 0 then (
    f_X1_swingIn_21 I L 0)
  else (
    f_X1_swingIn_21 I L 1)))
set_option maxRecDepth 100000 in
set_option maxHeartbeats 4000000 in
theorem Zf_X1_swingIn {X : e_X} (hC : e_C X cX1_swingIn RX1 2 (some .int) 4 gN) (v1 : Int32) (I : e_I) (L : e_L) : Zo X (ph_i I L) (f_X1_swingIn v1 I L) 0 [(0, .ref 11), (1, .int v1)] [] I L := by
  unfold f_X1_swingIn
  refine zo_aload_n hC dX1_swingIn_0 rfl 0 rfl ?_
  refine zo_iconst (v := 1) hC (by decide) dX1_swingIn_1 ?_
  refine zo_iload_n hC dX1_swingIn_2 rfl 1 rfl ?_
  refine zo_callV_l hC (ci := 1) [.int 1, .int v1] [] me_X1_meanBy mlX1_152 im_X1_meanBy se_X1_meanBy rfl (by decide) at_11 (fun p hp => T_X1_meanBy 1 v1 I L p hp) (by decide) rfl (Nat.le_of_ble_eq_true rfl) dX1_swingIn_3 rfl (fun r_1 => ?_)
  refine zo_aload_n hC dX1_swingIn_6 rfl 0 rfl ?_
  refine zo_iconst (v := 0) hC (by decide) dX1_swingIn_7 ?_
  refine zo_iload_n hC dX1_swingIn_8 rfl 1 rfl ?_
  refine zo_callV_l hC (ci := 1) [.int 0, .int v1] [.long r_1] me_X1_meanBy mlX1_152 im_X1_meanBy se_X1_meanBy rfl (by decide) at_11 (fun p hp => T_X1_meanBy 0 v1 I L p hp) (by decide) rfl (Nat.le_of_ble_eq_true rfl) dX1_swingIn_9 rfl (fun r_2 => ?_)
  refine zo_lcmp hC dX1_swingIn_12 ?_
  refine zo_if_le (tgt := 20) hC dX1_swingIn_13 (by decide) (fun c_3 => ?_) (fun c_3 => ?_)
  · refine zo_iconst (v := 0) hC (by decide) dX1_swingIn_20 ?_
    refine zo_sub [] (lv' := []) rfl ?_
    exact Zf_X1_swingIn_21 hC I L 0
  · refine zo_iconst (v := 1) hC (by decide) dX1_swingIn_16 ?_
    refine zo_goto (tgt := 21) hC dX1_swingIn_17 (by decide) ?_
    refine zo_sub [] (lv' := []) rfl ?_
    exact Zf_X1_swingIn_21 hC I L 1

theorem T_X1_swingIn (v1 : Int32) (I : e_I) (L : e_L) (p : Int32) (hp : f_X1_swingIn v1 I L = some p) : Mt yX1_swingIn cX1_swingIn 2 (some .int) 4 gN [.ref 11, .int v1] I L ((ph_i I L) p) := zo_enter hp (by decide) (Nat.le_of_ble_eq_true rfl) (fun X hC => Zf_X1_swingIn hC v1 I L)
def f_X1_choiceIn_27 (I : e_I) (L : e_L) (s0 : Int32) : Option (Int32) :=
  some s0
set_option maxRecDepth 100000 in
set_option maxHeartbeats 4000000 in
theorem Zf_X1_choiceIn_27 {X : e_X} (hC : e_C X cX1_choiceIn RX1 3 (some .int) 5 gN) (I : e_I) (L : e_L) (s0 : Int32) : Zo X (ph_i I L) (f_X1_choiceIn_27 I L s0) 27 [] [.int s0] I L := by
  unfold f_X1_choiceIn_27
  exact zo_iret hC rfl dX1_choiceIn_27

def f_X1_choiceIn (v1 : Int32) (I : e_I) (L : e_L) : Option (Int32) :=
  e_b1 (f_X1_swingIn v1 I L) (fun (r_1 : Int32) =>
  e_b1 (f_X1_meanBy 2 v1 I L) (fun (r_2 : Int64) =>
  e_b1 (f_X1_meanBy r_1 v1 I L) (fun (r_3 : Int64) =>
  if (lg_cmp r_2 r_3) ≤ 0 then (
    f_X1_choiceIn_27 I L r_1)
  else (
    f_X1_choiceIn_27 I L 2))))
set_option maxRecDepth 100000 in
set_option maxHeartbeats 4000000 in
theorem Zf_X1_choiceIn {X : e_X} (hC : e_C X cX1_choiceIn RX1 3 (some .int) 5 gN) (v1 : Int32) (I : e_I) (L : e_L) : Zo X (ph_i I L) (f_X1_choiceIn v1 I L) 0 [(0, .ref 11), (1, .int v1)] [] I L := by
  unfold f_X1_choiceIn
  refine zo_aload_n hC dX1_choiceIn_0 rfl 0 rfl ?_
  refine zo_iload_n hC dX1_choiceIn_1 rfl 1 rfl ?_
  refine zo_callV_i hC (ci := 1) [.int v1] [] me_X1_swingIn mlX1_149 im_X1_swingIn se_X1_swingIn rfl (by decide) at_11 (fun p hp => T_X1_swingIn v1 I L p hp) (by decide) rfl (Nat.le_of_ble_eq_true rfl) dX1_choiceIn_2 rfl (fun r_1 => ?_)
  refine zo_istore_n (lv' := [(2, .int r_1), (0, .ref 11), (1, .int v1)]) hC dX1_choiceIn_5 rfl (by decide) rfl ?_
  refine zo_aload_n hC dX1_choiceIn_6 rfl 1 rfl ?_
  refine zo_iconst (v := 2) hC (by decide) dX1_choiceIn_7 ?_
  refine zo_iload_n hC dX1_choiceIn_8 rfl 2 rfl ?_
  refine zo_callV_l hC (ci := 1) [.int 2, .int v1] [] me_X1_meanBy mlX1_152 im_X1_meanBy se_X1_meanBy rfl (by decide) at_11 (fun p hp => T_X1_meanBy 2 v1 I L p hp) (by decide) rfl (Nat.le_of_ble_eq_true rfl) dX1_choiceIn_9 rfl (fun r_2 => ?_)
  refine zo_aload_n hC dX1_choiceIn_12 rfl 1 rfl ?_
  refine zo_iload_n hC dX1_choiceIn_13 rfl 0 rfl ?_
  refine zo_iload_n hC dX1_choiceIn_14 rfl 2 rfl ?_
  refine zo_callV_l hC (ci := 1) [.int r_1, .int v1] [.long r_2] me_X1_meanBy mlX1_152 im_X1_meanBy se_X1_meanBy rfl (by decide) at_11 (fun p hp => T_X1_meanBy r_1 v1 I L p hp) (by decide) rfl (Nat.le_of_ble_eq_true rfl) dX1_choiceIn_15 rfl (fun r_3 => ?_)
  refine zo_lcmp hC dX1_choiceIn_18 ?_
  refine zo_if_le (tgt := 26) hC dX1_choiceIn_19 (by decide) (fun c_4 => ?_) (fun c_4 => ?_)
  · refine zo_iload_n hC dX1_choiceIn_26 rfl 0 rfl ?_
    refine zo_sub [] (lv' := []) rfl ?_
    exact Zf_X1_choiceIn_27 hC I L r_1
  · refine zo_iconst (v := 2) hC (by decide) dX1_choiceIn_22 ?_
    refine zo_goto (tgt := 27) hC dX1_choiceIn_23 (by decide) ?_
    refine zo_sub [] (lv' := []) rfl ?_
    exact Zf_X1_choiceIn_27 hC I L 2

theorem T_X1_choiceIn (v1 : Int32) (I : e_I) (L : e_L) (p : Int32) (hp : f_X1_choiceIn v1 I L = some p) : Mt yX1_choiceIn cX1_choiceIn 3 (some .int) 5 gN [.ref 11, .int v1] I L ((ph_i I L) p) := zo_enter hp (by decide) (Nat.le_of_ble_eq_true rfl) (fun X hC => Zf_X1_choiceIn hC v1 I L)
def f_X1_swingAt_20 (L : e_L) (s0 : Int64) : Option (Int64) :=
  some s0
set_option maxRecDepth 100000 in
set_option maxHeartbeats 4000000 in
theorem Zf_X1_swingAt_20 {X : e_X} (hC : e_C X cX1_swingAt RX1 2 (some .long) 0 gN) (I : e_I) (L : e_L) (s0 : Int64) : Zo X (ph_l I L) (f_X1_swingAt_20 L s0) 20 [] [.long s0] I L := by
  unfold f_X1_swingAt_20
  exact zo_lret hC rfl dX1_swingAt_20

def f_X1_swingAt_19 (L : e_L) : Option (Int64) :=
  f_X1_swingAt_20 L 0
set_option maxRecDepth 100000 in
set_option maxHeartbeats 4000000 in
theorem Zf_X1_swingAt_19 {X : e_X} (hC : e_C X cX1_swingAt RX1 2 (some .long) 0 gN) (I : e_I) (L : e_L) : Zo X (ph_l I L) (f_X1_swingAt_19 L) 19 [] [] I L := by
  unfold f_X1_swingAt_19
  refine zo_lconst (v := 0) hC (by decide) dX1_swingAt_19 ?_
  exact Zf_X1_swingAt_20 hC I L 0

def f_X1_swingAt (v1 : Int32) (L : e_L) : Option (Int64) :=
  if v1 < 0 then (
    f_X1_swingAt_19 L )
  else (
    if v1 > 24 then (
      f_X1_swingAt_19 L )
    else (
      e_as (e_ix v1 25 = true) (
      f_X1_swingAt_20 L (L 18 v1.toNatClampNeg))))
set_option maxRecDepth 100000 in
set_option maxHeartbeats 4000000 in
theorem Zf_X1_swingAt {X : e_X} (hC : e_C X cX1_swingAt RX1 2 (some .long) 0 gN) (v1 : Int32) (I : e_I) (L : e_L) : Zo X (ph_l I L) (f_X1_swingAt v1 L) 0 [(0, .ref 11), (1, .int v1)] [] I L := by
  unfold f_X1_swingAt
  refine zo_iload_n hC dX1_swingAt_0 rfl 1 rfl ?_
  refine zo_if_lt (tgt := 19) hC dX1_swingAt_1 (by decide) (fun c_1 => ?_) (fun c_1 => ?_)
  · refine zo_sub [] (lv' := []) rfl ?_
    exact Zf_X1_swingAt_19 hC I L 
  · refine zo_iload_n hC dX1_swingAt_4 rfl 1 rfl ?_
    refine zo_bipush (v := 24) hC (by decide) dX1_swingAt_5 ?_
    refine zo_icmp_gt (tgt := 19) hC dX1_swingAt_7 (by decide) (fun c_2 => ?_) (fun c_2 => ?_)
    · refine zo_sub [] (lv' := []) rfl ?_
      exact Zf_X1_swingAt_19 hC I L 
    · refine zo_aload_n hC dX1_swingAt_10 rfl 0 rfl ?_
      refine zo_getR hC (r := 18) fk1_29 (by decide) gr_11_4 at_11 dX1_swingAt_11 ?_
      refine zo_iload_n hC dX1_swingAt_14 rfl 1 rfl ?_
      refine zo_as (fun h_3 => ?_)
      refine zo_lald hC ar_18 (e_ix_vp h_3) dX1_swingAt_15 ?_
      refine zo_goto (tgt := 20) hC dX1_swingAt_16 (by decide) ?_
      refine zo_sub [] (lv' := []) rfl ?_
      exact Zf_X1_swingAt_20 hC I L (L 18 v1.toNatClampNeg)

theorem T_X1_swingAt (v1 : Int32) (I : e_I) (L : e_L) (p : Int64) (hp : f_X1_swingAt v1 L = some p) : Mt yX1_swingAt cX1_swingAt 2 (some .long) 0 gN [.ref 11, .int v1] I L ((ph_l I L) p) := zo_enter hp (by decide) (Nat.le_of_ble_eq_true rfl) (fun X hC => Zf_X1_swingAt hC v1 I L)
def f_X1_fillWiseRow_12 (I : e_I) (v1 : Int32) (k38 : e_L → Option (e_L)) : Nat → Int32 → e_L → Option (e_L)
  | 0, _, _ => none
  | n + 1, v2, L =>
    if v2 ≥ 24 then (
      k38 L)
    else (
      e_b1 (f_X1_swingMean (v1 - 1) v2 I L) (fun (r_2 : Int64) =>
      e_as (e_ix v2 25 = true) (
      e_let (e_ul L 18 v2.toNatClampNeg r_2) (fun (L_4 : e_L) =>
      e_let (v2 + 1) (fun (x_5 : Int32) =>
      f_X1_fillWiseRow_12 I v1 k38 n x_5 L_4)))))
set_option maxRecDepth 100000 in
set_option maxHeartbeats 4000000 in
theorem Zf_X1_fillWiseRow_12 {X : e_X} (hC : e_C X cX1_fillWiseRow RX1 9 none 3 gN) (I : e_I) (v1 : Int32) (k38 : e_L → Option (e_L)) (hk38 : ∀ (L : e_L), Zo X (ph_vL I) (k38 L) 38 [(0, .ref 11), (1, .int v1)] [] I L) : ∀ (n : Nat) (v2 : Int32) (L : e_L), Zo X (ph_vL I) (f_X1_fillWiseRow_12 I v1 k38 n v2 L) 12 [(0, .ref 11), (1, .int v1), (2, .int v2)] [] I L := by
  intro n
  induction n with
  | zero => intro v2 L p hp; cases hp
  | succ n ih =>
    intro v2 L
    unfold f_X1_fillWiseRow_12
    refine zo_iload_n hC dX1_fillWiseRow_12 rfl 2 rfl ?_
    refine zo_bipush (v := 24) hC (by decide) dX1_fillWiseRow_13 ?_
    refine zo_icmp_ge (tgt := 38) hC dX1_fillWiseRow_15 (by decide) (fun c_1 => ?_) (fun c_1 => ?_)
    · refine zo_sub [0, 1] (lv' := [(0, .ref 11), (1, .int v1)]) rfl ?_
      exact hk38 L
    · refine zo_aload_n hC dX1_fillWiseRow_18 rfl 0 rfl ?_
      refine zo_getR hC (r := 18) fk1_29 (by decide) gr_11_4 at_11 dX1_fillWiseRow_19 ?_
      refine zo_iload_n hC dX1_fillWiseRow_22 rfl 2 rfl ?_
      refine zo_aload_n hC dX1_fillWiseRow_23 rfl 0 rfl ?_
      refine zo_iload_n hC dX1_fillWiseRow_24 rfl 1 rfl ?_
      refine zo_iconst (v := 1) hC (by decide) dX1_fillWiseRow_25 ?_
      refine zo_isub hC dX1_fillWiseRow_26 ?_
      refine zo_iload_n hC dX1_fillWiseRow_27 rfl 2 rfl ?_
      refine zo_callV_l hC (ci := 1) [.int (v1 - 1), .int v2] [.int v2, .ref 18] me_X1_swingMean mlX1_127 im_X1_swingMean se_X1_swingMean rfl (by decide) at_11 (fun p hp => T_X1_swingMean (v1 - 1) v2 I L p hp) (by decide) rfl (Nat.le_of_ble_eq_true rfl) dX1_fillWiseRow_28 rfl (fun r_2 => ?_)
      refine zo_as (fun h_3 => ?_)
      refine zo_last hC ar_18 (e_ix_vp h_3) dX1_fillWiseRow_31 ?_
      refine zo_topL (fun L_4 => ?_)
      refine zo_iinc hC (x := v2) (fun x_5 => [(2, .int x_5), (0, .ref 11), (1, .int v1)]) dX1_fillWiseRow_32 2 rfl (by rfl) (by decide) (fun _ => rfl) (fun x_5 => ?_)
      refine zo_goto (tgt := 12) hC dX1_fillWiseRow_35 (by decide) ?_
      refine zo_sub [1, 2, 0] (lv' := [(0, .ref 11), (1, .int v1), (2, .int x_5)]) rfl ?_
      exact ih x_5 L_4

def f_X1_fillWiseRow_115 (I : e_I) (v1 : Int32) (k40 : Int32 → e_L → Option (e_L)) (k133 : e_L → Option (e_L)) (v2 : Int32) (v3 : Int64) (L : e_L) : Option (e_L) :=
  e_as (e_ix ((v1 * 25) + v2) 150 = true) (
  e_let (e_ul L 15 ((v1 * 25) + v2).toNatClampNeg v3) (fun (L_2 : e_L) =>
  e_let (v2 + 1) (fun (x_3 : Int32) =>
  k40 x_3 L_2)))
set_option maxRecDepth 100000 in
set_option maxHeartbeats 4000000 in
theorem Zf_X1_fillWiseRow_115 {X : e_X} (hC : e_C X cX1_fillWiseRow RX1 9 none 3 gN) (I : e_I) (v1 : Int32) (k40 : Int32 → e_L → Option (e_L)) (k133 : e_L → Option (e_L)) (hk40 : ∀ (v2 : Int32) (L : e_L), Zo X (ph_vL I) (k40 v2 L) 40 [(0, .ref 11), (1, .int v1), (2, .int v2)] [] I L) (hk133 : ∀ (L : e_L), Zo X (ph_vL I) (k133 L) 133 [] [] I L) (v2 : Int32) (v3 : Int64) (L : e_L) : Zo X (ph_vL I) (f_X1_fillWiseRow_115 I v1 k40 k133 v2 v3 L) 115 [(0, .ref 11), (1, .int v1), (2, .int v2), (3, .long v3)] [] I L := by
  unfold f_X1_fillWiseRow_115
  refine zo_aload_n hC dX1_fillWiseRow_115 rfl 0 rfl ?_
  refine zo_getR hC (r := 15) fk1_18 (by decide) gr_11_1 at_11 dX1_fillWiseRow_116 ?_
  refine zo_iload_n hC dX1_fillWiseRow_119 rfl 1 rfl ?_
  refine zo_bipush (v := 25) hC (by decide) dX1_fillWiseRow_120 ?_
  refine zo_imul hC dX1_fillWiseRow_122 ?_
  refine zo_iload_n hC dX1_fillWiseRow_123 rfl 2 rfl ?_
  refine zo_iadd hC dX1_fillWiseRow_124 ?_
  refine zo_lload_n hC dX1_fillWiseRow_125 rfl 3 rfl ?_
  refine zo_as (fun h_1 => ?_)
  refine zo_last hC ar_15 (e_ix_vp h_1) dX1_fillWiseRow_126 ?_
  refine zo_topL (fun L_2 => ?_)
  refine zo_iinc hC (x := v2) (fun x_3 => [(2, .int x_3), (0, .ref 11), (1, .int v1), (3, .long v3)]) dX1_fillWiseRow_127 2 rfl (by rfl) (by decide) (fun _ => rfl) (fun x_3 => ?_)
  refine zo_goto (tgt := 40) hC dX1_fillWiseRow_130 (by decide) ?_
  refine zo_sub [1, 2, 0] (lv' := [(0, .ref 11), (1, .int v1), (2, .int x_3)]) rfl ?_
  exact hk40 x_3 L_2

def f_X1_fillWiseRow_40 (I : e_I) (v1 : Int32) (k133 : e_L → Option (e_L)) : Nat → Int32 → e_L → Option (e_L)
  | 0, _, _ => none
  | n + 1, v2, L =>
    if v2 ≥ 24 then (
      k133 L)
    else (
      e_as (e_ix v2 25 = true) (
      e_let ((20 : Int64) * (L 18 v2.toNatClampNeg)) (fun (x_3 : Int64) =>
      e_b1 (f_X2_can 7 v2 I) (fun (r_4 : Int32) =>
      if r_4 = 0 then (
        f_X1_fillWiseRow_115 I v1 (fun v2 L => f_X1_fillWiseRow_40 I v1 k133 n v2 L) k133 v2 x_3 L)
      else (
        e_b1 (f_X2_behind 7 v2 I) (fun (r_6 : Int32) =>
        e_b1 (f_X1_swingAt r_6 L) (fun (r_7 : Int64) =>
        e_b1 (f_X2_behind 8 v2 I) (fun (r_8 : Int32) =>
        e_b1 (f_X1_swingAt r_8 L) (fun (r_9 : Int64) =>
        e_b1 (f_X1_stealMean r_7 r_9 I) (fun (r_10 : Int64) =>
        e_let (e_maxl x_3 r_10) (fun (x_11 : Int64) =>
        f_X1_fillWiseRow_115 I v1 (fun v2 L => f_X1_fillWiseRow_40 I v1 k133 n v2 L) k133 v2 x_11 L)))))))))))
set_option maxRecDepth 100000 in
set_option maxHeartbeats 4000000 in
theorem Zf_X1_fillWiseRow_40 {X : e_X} (hC : e_C X cX1_fillWiseRow RX1 9 none 3 gN) (I : e_I) (v1 : Int32) (k133 : e_L → Option (e_L)) (hk133 : ∀ (L : e_L), Zo X (ph_vL I) (k133 L) 133 [] [] I L) : ∀ (n : Nat) (v2 : Int32) (L : e_L), Zo X (ph_vL I) (f_X1_fillWiseRow_40 I v1 k133 n v2 L) 40 [(0, .ref 11), (1, .int v1), (2, .int v2)] [] I L := by
  intro n
  induction n with
  | zero => intro v2 L p hp; cases hp
  | succ n ih =>
    intro v2 L
    unfold f_X1_fillWiseRow_40
    refine zo_iload_n hC dX1_fillWiseRow_40 rfl 2 rfl ?_
    refine zo_bipush (v := 24) hC (by decide) dX1_fillWiseRow_41 ?_
    refine zo_icmp_ge (tgt := 133) hC dX1_fillWiseRow_43 (by decide) (fun c_1 => ?_) (fun c_1 => ?_)
    · refine zo_sub [] (lv' := []) rfl ?_
      exact hk133 L
    · refine zo_ldc2 (v := 20) hC clX1_45 dX1_fillWiseRow_46 ?_
      refine zo_aload_n hC dX1_fillWiseRow_49 rfl 0 rfl ?_
      refine zo_getR hC (r := 18) fk1_29 (by decide) gr_11_4 at_11 dX1_fillWiseRow_50 ?_
      refine zo_iload_n hC dX1_fillWiseRow_53 rfl 2 rfl ?_
      refine zo_as (fun h_2 => ?_)
      refine zo_lald hC ar_18 (e_ix_vp h_2) dX1_fillWiseRow_54 ?_
      refine zo_lmul hC dX1_fillWiseRow_55 ?_
      refine zo_topl (fun x_3 => ?_)
      refine zo_lstore_n (lv' := [(3, .long x_3), (0, .ref 11), (1, .int v1), (2, .int v2)]) hC dX1_fillWiseRow_56 rfl (by decide) rfl ?_
      refine zo_aload_n hC dX1_fillWiseRow_57 rfl 1 rfl ?_
      refine zo_getR hC (r := 12) fk1_12 (by decide) gr_11_0 at_11 dX1_fillWiseRow_58 ?_
      refine zo_bipush (v := 7) hC (by decide) dX1_fillWiseRow_61 ?_
      refine zo_iload_n hC dX1_fillWiseRow_63 rfl 3 rfl ?_
      refine zo_callV_i hC (ci := 2) [.int 7, .int v2] [] me_X2_can mlX1_130 im_X2_can se_X2_can rfl (by decide) at_12 (fun p hp => T_X2_can 7 v2 I L p hp) (by decide) rfl (Nat.le_of_ble_eq_true rfl) dX1_fillWiseRow_64 rfl (fun r_4 => ?_)
      refine zo_if_eq (tgt := 115) hC dX1_fillWiseRow_67 (by decide) (fun c_5 => ?_) (fun c_5 => ?_)
      · refine zo_sub [1, 2, 3, 0] (lv' := [(0, .ref 11), (1, .int v1), (2, .int v2), (3, .long x_3)]) rfl ?_
        exact Zf_X1_fillWiseRow_115 hC I v1 (fun v2 L => f_X1_fillWiseRow_40 I v1 k133 n v2 L) k133 (fun v2 L => ih v2 L) hk133 v2 x_3 L
      · refine zo_aload_n hC dX1_fillWiseRow_70 rfl 1 rfl ?_
        refine zo_aload_n hC dX1_fillWiseRow_71 rfl 1 rfl ?_
        refine zo_getR hC (r := 12) fk1_12 (by decide) gr_11_0 at_11 dX1_fillWiseRow_72 ?_
        refine zo_bipush (v := 7) hC (by decide) dX1_fillWiseRow_75 ?_
        refine zo_iload_n hC dX1_fillWiseRow_77 rfl 3 rfl ?_
        refine zo_callV_i hC (ci := 2) [.int 7, .int v2] [.ref 11] me_X2_behind mlX1_99 im_X2_behind se_X2_behind rfl (by decide) at_12 (fun p hp => T_X2_behind 7 v2 I L p hp) (by decide) rfl (Nat.le_of_ble_eq_true rfl) dX1_fillWiseRow_78 rfl (fun r_6 => ?_)
        refine zo_callV_l hC (ci := 1) [.int r_6] [] me_X1_swingAt mlX1_134 im_X1_swingAt se_X1_swingAt rfl (by decide) at_11 (fun p hp => T_X1_swingAt r_6 I L p hp) (by decide) rfl (Nat.le_of_ble_eq_true rfl) dX1_fillWiseRow_81 rfl (fun r_7 => ?_)
        refine zo_lstore (lv' := [(5, .long r_7), (3, .long x_3), (0, .ref 11), (1, .int v1), (2, .int v2)]) hC dX1_fillWiseRow_84 (by decide) rfl ?_
        refine zo_aload_n hC dX1_fillWiseRow_86 rfl 2 rfl ?_
        refine zo_aload_n hC dX1_fillWiseRow_87 rfl 2 rfl ?_
        refine zo_getR hC (r := 12) fk1_12 (by decide) gr_11_0 at_11 dX1_fillWiseRow_88 ?_
        refine zo_bipush (v := 8) hC (by decide) dX1_fillWiseRow_91 ?_
        refine zo_iload_n hC dX1_fillWiseRow_93 rfl 4 rfl ?_
        refine zo_callV_i hC (ci := 2) [.int 8, .int v2] [.ref 11] me_X2_behind mlX1_99 im_X2_behind se_X2_behind rfl (by decide) at_12 (fun p hp => T_X2_behind 8 v2 I L p hp) (by decide) rfl (Nat.le_of_ble_eq_true rfl) dX1_fillWiseRow_94 rfl (fun r_8 => ?_)
        refine zo_callV_l hC (ci := 1) [.int r_8] [] me_X1_swingAt mlX1_134 im_X1_swingAt se_X1_swingAt rfl (by decide) at_11 (fun p hp => T_X1_swingAt r_8 I L p hp) (by decide) rfl (Nat.le_of_ble_eq_true rfl) dX1_fillWiseRow_97 rfl (fun r_9 => ?_)
        refine zo_lstore (lv' := [(7, .long r_9), (5, .long r_7), (3, .long x_3), (0, .ref 11), (1, .int v1), (2, .int v2)]) hC dX1_fillWiseRow_100 (by decide) rfl ?_
        refine zo_lload_n hC dX1_fillWiseRow_102 rfl 2 rfl ?_
        refine zo_aload_n hC dX1_fillWiseRow_103 rfl 3 rfl ?_
        refine zo_lload hC dX1_fillWiseRow_104 1 rfl ?_
        refine zo_lload hC dX1_fillWiseRow_106 0 rfl ?_
        refine zo_callV_l hC (ci := 1) [.long r_7, .long r_9] [.long x_3] me_X1_stealMean mlX1_137 im_X1_stealMean se_X1_stealMean rfl (by decide) at_11 (fun p hp => T_X1_stealMean r_7 r_9 I L p hp) (by decide) rfl (Nat.le_of_ble_eq_true rfl) dX1_fillWiseRow_108 rfl (fun r_10 => ?_)
        refine zo_mmaxl_ hC mlX1_141 st_mmaxl in_Math cd_mmaxl (Nat.le_of_ble_eq_true rfl) dX1_fillWiseRow_111 ?_
        refine zo_topl (fun x_11 => ?_)
        refine zo_lstore_n (lv' := [(3, .long x_11), (7, .long r_9), (5, .long r_7), (0, .ref 11), (1, .int v1), (2, .int v2)]) hC dX1_fillWiseRow_114 rfl (by decide) rfl ?_
        refine zo_sub [3, 4, 5, 0] (lv' := [(0, .ref 11), (1, .int v1), (2, .int v2), (3, .long x_11)]) rfl ?_
        exact Zf_X1_fillWiseRow_115 hC I v1 (fun v2 L => f_X1_fillWiseRow_40 I v1 k133 n v2 L) k133 (fun v2 L => ih v2 L) hk133 v2 x_11 L

def f_X1_fillWiseRow (v1 : Int32) (I : e_I) (L : e_L) : Option (e_L) :=
  e_b1 (f_X7_within v1 1 5) (fun (r_1 : Int32) =>
  if r_1 ≠ 0 then (
    f_X1_fillWiseRow_12 I v1 (fun (L_3 : e_L) =>
      f_X1_fillWiseRow_40 I v1 (fun (L_4 : e_L) =>
        some L_4) e_FU 0 L_3) e_FU 0 L)
  else (
    some L))
set_option maxRecDepth 100000 in
set_option maxHeartbeats 4000000 in
theorem Zf_X1_fillWiseRow {X : e_X} (hC : e_C X cX1_fillWiseRow RX1 9 none 3 gN) (v1 : Int32) (I : e_I) (L : e_L) : Zo X (ph_vL I) (f_X1_fillWiseRow v1 I L) 0 [(0, .ref 11), (1, .int v1)] [] I L := by
  unfold f_X1_fillWiseRow
  refine zo_iload_n hC dX1_fillWiseRow_0 rfl 1 rfl ?_
  refine zo_iconst (v := 1) hC (by decide) dX1_fillWiseRow_1 ?_
  refine zo_iconst (v := 5) hC (by decide) dX1_fillWiseRow_2 ?_
  refine zo_callSN_i hC [.int v1, .int 1, .int 5] [] me_X7_within (List.mem_of_getElem? (i := 7) rfl) sm_X7_within (fun p hp => T_X7_within v1 1 5 I L p hp) (by decide) rfl (Nat.le_of_ble_eq_true rfl) dX1_fillWiseRow_3 rfl (fun r_1 => ?_)
  refine zo_if_ne (tgt := 10) hC dX1_fillWiseRow_6 (by decide) (fun c_2 => ?_) (fun c_2 => ?_)
  · refine zo_iconst (v := 0) hC (by decide) dX1_fillWiseRow_10 ?_
    refine zo_istore_n (lv' := [(2, .int 0), (0, .ref 11), (1, .int v1)]) hC dX1_fillWiseRow_11 rfl (by decide) rfl ?_
    refine zo_sub [1, 2, 0] (lv' := [(0, .ref 11), (1, .int v1), (2, .int 0)]) rfl ?_
    refine Zf_X1_fillWiseRow_12 hC I v1 _ (fun L_3 => ?_) e_FU 0 L
    · refine zo_iconst (v := 0) hC (by decide) dX1_fillWiseRow_38 ?_
      refine zo_istore_n (lv' := [(2, .int 0), (0, .ref 11), (1, .int v1)]) hC dX1_fillWiseRow_39 rfl (by decide) rfl ?_
      refine zo_sub [1, 2, 0] (lv' := [(0, .ref 11), (1, .int v1), (2, .int 0)]) rfl ?_
      refine Zf_X1_fillWiseRow_40 hC I v1 _ (fun L_4 => ?_) e_FU 0 L_3
      · exact zo_vret hC rfl dX1_fillWiseRow_133
  · exact zo_vret hC rfl dX1_fillWiseRow_9

theorem T_X1_fillWiseRow (v1 : Int32) (I : e_I) (L : e_L) (p : e_L) (hp : f_X1_fillWiseRow v1 I L = some p) : Mt yX1_fillWiseRow cX1_fillWiseRow 9 none 3 gN [.ref 11, .int v1] I L ((ph_vL I) p) := zo_enter hp (by decide) (Nat.le_of_ble_eq_true rfl) (fun X hC => Zf_X1_fillWiseRow hC v1 I L)
def f_X1_lookAhead_25 (g1 : Nat) (v2 : Int32) (v4 : Int32) (k68 : e_I → e_L → Option (e_I × e_L)) : Nat → Int32 → e_I → e_L → Option (e_I × e_L)
  | 0, _, _, _ => none
  | n + 1, v5, I, L =>
    if v5 ≥ v2 then (
      k68 I L)
    else (
      e_b1 (f_X0_batterRound g1 ((v4 + v2) - v5) I) (fun (r_2 : Int32) =>
      e_b1 (f_X1_sendUp g1 r_2 (((I g1 5) + v2) - v5) I) (fun (I_3 : e_I) =>
      e_b1 (f_X1_fillWiseRow v5 I_3 L) (fun (L_4 : e_L) =>
      e_let (v5 + 1) (fun (x_5 : Int32) =>
      f_X1_lookAhead_25 g1 v2 v4 k68 n x_5 I_3 L_4)))))
set_option maxRecDepth 100000 in
set_option maxHeartbeats 4000000 in
theorem Zf_X1_lookAhead_25 {X : e_X} (hC : e_C X cX1_lookAhead RX1 6 none 4 gN) (g1 : Nat) (hg1 : e_isG g1) (v2 : Int32) (v4 : Int32) (k68 : e_I → e_L → Option (e_I × e_L)) (hk68 : ∀ (I : e_I) (L : e_L), Zo X (ph_vIL) (k68 I L) 68 [(0, .ref 11), (1, .ref g1), (2, .int v2)] [] I L) : ∀ (n : Nat) (v5 : Int32) (I : e_I) (L : e_L), Zo X (ph_vIL) (f_X1_lookAhead_25 g1 v2 v4 k68 n v5 I L) 25 [(0, .ref 11), (1, .ref g1), (2, .int v2), (4, .int v4), (5, .int v5)] [] I L := by
  intro n
  induction n with
  | zero => intro v5 I L p hp; cases hp
  | succ n ih =>
    intro v5 I L
    unfold f_X1_lookAhead_25
    refine zo_iload hC dX1_lookAhead_25 4 rfl ?_
    refine zo_iload_n hC dX1_lookAhead_27 rfl 2 rfl ?_
    refine zo_icmp_ge (tgt := 68) hC dX1_lookAhead_28 (by decide) (fun c_1 => ?_) (fun c_1 => ?_)
    · refine zo_sub [0, 1, 2] (lv' := [(0, .ref 11), (1, .ref g1), (2, .int v2)]) rfl ?_
      exact hk68 I L
    · refine zo_aload_n hC dX1_lookAhead_31 rfl 0 rfl ?_
      refine zo_aload_n hC dX1_lookAhead_32 rfl 1 rfl ?_
      refine zo_aload_n hC dX1_lookAhead_33 rfl 1 rfl ?_
      refine zo_iload hC dX1_lookAhead_34 3 rfl ?_
      refine zo_iload_n hC dX1_lookAhead_36 rfl 2 rfl ?_
      refine zo_iadd hC dX1_lookAhead_37 ?_
      refine zo_iload hC dX1_lookAhead_38 4 rfl ?_
      refine zo_isub hC dX1_lookAhead_40 ?_
      refine zo_callV_i hC (ci := 0) [.int ((v4 + v2) - v5)] [.ref g1, .ref 11] me_X0_batterRound mlX1_51 im_X0_batterRound se_X0_batterRound rfl (by decide) (atG hg1) (fun p hp => T_X0_batterRound g1 hg1 ((v4 + v2) - v5) I L p hp) (by decide) rfl (Nat.le_of_ble_eq_true rfl) dX1_lookAhead_41 rfl (fun r_2 => ?_)
      refine zo_aload_n hC dX1_lookAhead_44 rfl 1 rfl ?_
      refine zo_getI hC fk1_118 (atG hg1) dX1_lookAhead_45 ?_
      refine zo_iload_n hC dX1_lookAhead_48 rfl 2 rfl ?_
      refine zo_iadd hC dX1_lookAhead_49 ?_
      refine zo_iload hC dX1_lookAhead_50 4 rfl ?_
      refine zo_isub hC dX1_lookAhead_52 ?_
      refine zo_callV_vI hC (ci := 1) [.ref g1, .int r_2, .int (((I g1 5) + v2) - v5)] [] me_X1_sendUp mlX1_55 im_X1_sendUp se_X1_sendUp rfl (by decide) at_11 (fun p hp => T_X1_sendUp g1 hg1 r_2 (((I g1 5) + v2) - v5) I L p hp) (by decide) rfl (Nat.le_of_ble_eq_true rfl) dX1_lookAhead_53 rfl (fun I_3 => ?_)
      refine zo_aload_n hC dX1_lookAhead_56 rfl 0 rfl ?_
      refine zo_iload hC dX1_lookAhead_57 4 rfl ?_
      refine zo_callV_vL hC (ci := 1) [.int v5] [] me_X1_fillWiseRow mlX1_121 im_X1_fillWiseRow se_X1_fillWiseRow rfl (by decide) at_11 (fun p hp => T_X1_fillWiseRow v5 I_3 L p hp) (by decide) rfl (Nat.le_of_ble_eq_true rfl) dX1_lookAhead_59 rfl (fun L_4 => ?_)
      refine zo_iinc hC (x := v5) (fun x_5 => [(5, .int x_5), (0, .ref 11), (1, .ref g1), (2, .int v2), (4, .int v4)]) dX1_lookAhead_62 4 rfl (by rfl) (by decide) (fun _ => rfl) (fun x_5 => ?_)
      refine zo_goto (tgt := 25) hC dX1_lookAhead_65 (by decide) ?_
      refine zo_sub [1, 2, 3, 4, 0] (lv' := [(0, .ref 11), (1, .ref g1), (2, .int v2), (4, .int v4), (5, .int x_5)]) rfl ?_
      exact ih x_5 I_3 L_4

def f_X1_lookAhead (g1 : Nat) (v2 : Int32) (v3 : Int32) (I : e_I) (L : e_L) : Option (e_I × e_L) :=
  e_b1 (f_X1_scaleBy 400 L) (fun (L_1 : e_L) =>
  e_let (e_ui I 11 6 v3) (fun (I_2 : e_I) =>
  e_b1 (f_X0_placeOf g1 (I_2 g1 4) I_2) (fun (r_3 : Int32) =>
  f_X1_lookAhead_25 g1 v2 r_3 (fun (I_4 : e_I) (L_5 : e_L) =>
    e_b1 (f_X1_sendUp g1 (I_4 g1 4) (I_4 g1 5) I_4) (fun (I_6 : e_I) =>
    e_let (e_ui I_6 11 7 (v2 - 1)) (fun (I_7 : e_I) =>
    some (I_7, L_5)))) e_FU 1 I_2 L_1)))
set_option maxRecDepth 100000 in
set_option maxHeartbeats 4000000 in
theorem Zf_X1_lookAhead {X : e_X} (hC : e_C X cX1_lookAhead RX1 6 none 4 gN) (g1 : Nat) (hg1 : e_isG g1) (v2 : Int32) (v3 : Int32) (I : e_I) (L : e_L) : Zo X (ph_vIL) (f_X1_lookAhead g1 v2 v3 I L) 0 [(0, .ref 11), (1, .ref g1), (2, .int v2), (3, .int v3)] [] I L := by
  unfold f_X1_lookAhead
  refine zo_aload_n hC dX1_lookAhead_0 rfl 0 rfl ?_
  refine zo_ldc2 (v := 400) hC clX1_107 dX1_lookAhead_1 ?_
  refine zo_callV_vL hC (ci := 1) [.long 400] [] me_X1_scaleBy mlX1_47 im_X1_scaleBy se_X1_scaleBy rfl (by decide) at_11 (fun p hp => T_X1_scaleBy 400 I L p hp) (by decide) rfl (Nat.le_of_ble_eq_true rfl) dX1_lookAhead_4 rfl (fun L_1 => ?_)
  refine zo_aload_n hC dX1_lookAhead_7 rfl 0 rfl ?_
  refine zo_iload_n hC dX1_lookAhead_8 rfl 3 rfl ?_
  refine zo_putI hC fk1_109 ff1_6 at_11 dX1_lookAhead_9 ?_
  refine zo_topI (fun I_2 => ?_)
  refine zo_aload_n hC dX1_lookAhead_12 rfl 1 rfl ?_
  refine zo_aload_n hC dX1_lookAhead_13 rfl 1 rfl ?_
  refine zo_getI hC fk1_112 (atG hg1) dX1_lookAhead_14 ?_
  refine zo_callV_i hC (ci := 0) [.int (I_2 g1 4)] [] me_X0_placeOf mlX1_115 im_X0_placeOf se_X0_placeOf rfl (by decide) (atG hg1) (fun p hp => T_X0_placeOf g1 hg1 (I_2 g1 4) I_2 L_1 p hp) (by decide) rfl (Nat.le_of_ble_eq_true rfl) dX1_lookAhead_17 rfl (fun r_3 => ?_)
  refine zo_istore (lv' := [(4, .int r_3), (0, .ref 11), (1, .ref g1), (2, .int v2), (3, .int v3)]) hC dX1_lookAhead_20 (by decide) rfl ?_
  refine zo_iconst (v := 1) hC (by decide) dX1_lookAhead_22 ?_
  refine zo_istore (lv' := [(5, .int 1), (4, .int r_3), (0, .ref 11), (1, .ref g1), (2, .int v2), (3, .int v3)]) hC dX1_lookAhead_23 (by decide) rfl ?_
  refine zo_sub [2, 3, 4, 1, 0] (lv' := [(0, .ref 11), (1, .ref g1), (2, .int v2), (4, .int r_3), (5, .int 1)]) rfl ?_
  refine Zf_X1_lookAhead_25 hC g1 hg1 v2 r_3 _ (fun I_4 L_5 => ?_) e_FU 1 I_2 L_1
  · refine zo_aload_n hC dX1_lookAhead_68 rfl 0 rfl ?_
    refine zo_aload_n hC dX1_lookAhead_69 rfl 1 rfl ?_
    refine zo_aload_n hC dX1_lookAhead_70 rfl 1 rfl ?_
    refine zo_getI hC fk1_112 (atG hg1) dX1_lookAhead_71 ?_
    refine zo_aload_n hC dX1_lookAhead_74 rfl 1 rfl ?_
    refine zo_getI hC fk1_118 (atG hg1) dX1_lookAhead_75 ?_
    refine zo_callV_vI hC (ci := 1) [.ref g1, .int (I_4 g1 4), .int (I_4 g1 5)] [] me_X1_sendUp mlX1_55 im_X1_sendUp se_X1_sendUp rfl (by decide) at_11 (fun p hp => T_X1_sendUp g1 hg1 (I_4 g1 4) (I_4 g1 5) I_4 L_5 p hp) (by decide) rfl (Nat.le_of_ble_eq_true rfl) dX1_lookAhead_78 rfl (fun I_6 => ?_)
    refine zo_aload_n hC dX1_lookAhead_81 rfl 0 rfl ?_
    refine zo_iload_n hC dX1_lookAhead_82 rfl 2 rfl ?_
    refine zo_iconst (v := 1) hC (by decide) dX1_lookAhead_83 ?_
    refine zo_isub hC dX1_lookAhead_84 ?_
    refine zo_putI hC fk1_124 ff1_7 at_11 dX1_lookAhead_85 ?_
    refine zo_topI (fun I_7 => ?_)
    exact zo_vret hC rfl dX1_lookAhead_88

theorem T_X1_lookAhead (g1 : Nat) (hg1 : e_isG g1) (v2 : Int32) (v3 : Int32) (I : e_I) (L : e_L) (p : e_I × e_L) (hp : f_X1_lookAhead g1 v2 v3 I L = some p) : Mt yX1_lookAhead cX1_lookAhead 6 none 4 gN [.ref 11, .ref g1, .int v2, .int v3] I L ((ph_vIL) p) := zo_enter hp (by decide) (Nat.le_of_ble_eq_true rfl) (fun X hC => Zf_X1_lookAhead hC g1 hg1 v2 v3 I L)
def f_X7_wise (v1 : Int32) (v2 : Int32) (v3 : Int32) (v4 : Int32) (I : e_I) (L : e_L) : Option (Int64 × e_I × e_L) :=
  e_b1 (f_X7_isPart v4) (fun (r_1 : Int32) =>
  e_b1 (f_X7_troubleAhead r_1 v1 v2 v3 I) (fun (r_2 : Int32) =>
  e_b2 (f_X7_refused r_2 I) (fun (r_3 : Int32) (I_4 : e_I) =>
  if r_3 = 0 then (
    e_b1 (f_X0_ruled 23 3 I_4) (fun (r_6 : Int32) =>
    e_b2 (f_X1_lookAhead 23 v3 r_6 I_4 L) (fun (I_7 : e_I) (L_8 : e_L) =>
    e_b1 (f_X7_stateOf v1 v2) (fun (r_9 : Int32) =>
    e_b1 (f_X1_choiceIn r_9 I_7 L_8) (fun (r_10 : Int32) =>
    e_b1 (f_X1_meanBy r_10 r_9 I_7 L_8) (fun (r_11 : Int64) =>
    e_b1 (f_X1_unit v3 L_8) (fun (r_12 : Int64) =>
    e_b1 (f_X7_part r_11 r_12 v4) (fun (r_13 : Int64) =>
    some (r_13, I_7, L_8)))))))))
  else (
    some ((-1), I_4, L)))))
set_option maxRecDepth 100000 in
set_option maxHeartbeats 4000000 in
theorem Zf_X7_wise {X : e_X} (hC : e_C X cX7_wise RX7 6 (some .long) 6 gN) (v1 : Int32) (v2 : Int32) (v3 : Int32) (v4 : Int32) (I : e_I) (L : e_L) : Zo X (ph_lIL) (f_X7_wise v1 v2 v3 v4 I L) 0 [(0, .ref 0), (1, .int v1), (2, .int v2), (3, .int v3), (4, .int v4)] [] I L := by
  unfold f_X7_wise
  refine zo_aload_n hC dX7_wise_0 rfl 0 rfl ?_
  refine zo_aload_n hC dX7_wise_1 rfl 0 rfl ?_
  refine zo_iload hC dX7_wise_2 4 rfl ?_
  refine zo_callS_i hC [.int v4] [.ref 0, .ref 0] me_X7_isPart mlX7_200 sm_X7_isPart (fun p hp => T_X7_isPart v4 I L p hp) (by decide) rfl (Nat.le_of_ble_eq_true rfl) dX7_wise_4 rfl (fun r_1 => ?_)
  refine zo_iload_n hC dX7_wise_7 rfl 1 rfl ?_
  refine zo_iload_n hC dX7_wise_8 rfl 2 rfl ?_
  refine zo_iload_n hC dX7_wise_9 rfl 3 rfl ?_
  refine zo_callV_i hC (ci := 7) [.int r_1, .int v1, .int v2, .int v3] [.ref 0] me_X7_troubleAhead mlX7_203 im_X7_troubleAhead se_X7_troubleAhead rfl (by decide) at_0 (fun p hp => T_X7_troubleAhead r_1 v1 v2 v3 I L p hp) (by decide) rfl (Nat.le_of_ble_eq_true rfl) dX7_wise_10 rfl (fun r_2 => ?_)
  refine zo_callV_iI hC (ci := 7) [.int r_2] [] me_X7_refused mlX7_70 im_X7_refused se_X7_refused rfl (by decide) at_0 (fun p hp => T_X7_refused r_2 I L p hp) (by decide) rfl (Nat.le_of_ble_eq_true rfl) dX7_wise_13 rfl (fun r_3 I_4 => ?_)
  refine zo_if_eq (tgt := 23) hC dX7_wise_16 (by decide) (fun c_5 => ?_) (fun c_5 => ?_)
  · refine zo_aload_n hC dX7_wise_23 rfl 0 rfl ?_
    refine zo_getR hC (r := 11) fk7_40 (by decide) gr_0_5 at_0 dX7_wise_24 ?_
    refine zo_aload_n hC dX7_wise_27 rfl 0 rfl ?_
    refine zo_getR hC (r := 23) fk7_23 (by decide) gr_0_2 at_0 dX7_wise_28 ?_
    refine zo_iload_n hC dX7_wise_31 rfl 3 rfl ?_
    refine zo_aload_n hC dX7_wise_32 rfl 0 rfl ?_
    refine zo_getR hC (r := 23) fk7_23 (by decide) gr_0_2 at_0 dX7_wise_33 ?_
    refine zo_iconst (v := 3) hC (by decide) dX7_wise_36 ?_
    refine zo_callV_i hC (ci := 0) [.int 3] [.int v3, .ref 23, .ref 11] me_X0_ruled mlX7_139 im_X0_ruled se_X0_ruled rfl (by decide) at_23 (fun p hp => T_X0_ruled 23 isG_23 3 I_4 L p hp) (by decide) rfl (Nat.le_of_ble_eq_true rfl) dX7_wise_37 rfl (fun r_6 => ?_)
    refine zo_callV_vIL hC (ci := 1) [.ref 23, .int v3, .int r_6] [] me_X1_lookAhead mlX7_224 im_X1_lookAhead se_X1_lookAhead rfl (by decide) at_11 (fun p hp => T_X1_lookAhead 23 isG_23 v3 r_6 I_4 L p hp) (by decide) rfl (Nat.le_of_ble_eq_true rfl) dX7_wise_40 rfl (fun I_7 L_8 => ?_)
    refine zo_iload_n hC dX7_wise_43 rfl 1 rfl ?_
    refine zo_iload_n hC dX7_wise_44 rfl 2 rfl ?_
    refine zo_callS_i hC [.int v1, .int v2] [] me_X7_stateOf mlX7_178 sm_X7_stateOf (fun p hp => T_X7_stateOf v1 v2 I_7 L_8 p hp) (by decide) rfl (Nat.le_of_ble_eq_true rfl) dX7_wise_45 rfl (fun r_9 => ?_)
    refine zo_istore (lv' := [(5, .int r_9), (0, .ref 0), (1, .int v1), (2, .int v2), (3, .int v3), (4, .int v4)]) hC dX7_wise_48 (by decide) rfl ?_
    refine zo_aload_n hC dX7_wise_50 rfl 1 rfl ?_
    refine zo_getR hC (r := 11) fk7_40 (by decide) gr_0_5 at_0 dX7_wise_51 ?_
    refine zo_aload_n hC dX7_wise_54 rfl 1 rfl ?_
    refine zo_getR hC (r := 11) fk7_40 (by decide) gr_0_5 at_0 dX7_wise_55 ?_
    refine zo_iload hC dX7_wise_58 0 rfl ?_
    refine zo_callV_i hC (ci := 1) [.int r_9] [.ref 11] me_X1_choiceIn mlX7_228 im_X1_choiceIn se_X1_choiceIn rfl (by decide) at_11 (fun p hp => T_X1_choiceIn r_9 I_7 L_8 p hp) (by decide) rfl (Nat.le_of_ble_eq_true rfl) dX7_wise_60 rfl (fun r_10 => ?_)
    refine zo_iload hC dX7_wise_63 0 rfl ?_
    refine zo_callV_l hC (ci := 1) [.int r_10, .int r_9] [] me_X1_meanBy mlX7_231 im_X1_meanBy se_X1_meanBy rfl (by decide) at_11 (fun p hp => T_X1_meanBy r_10 r_9 I_7 L_8 p hp) (by decide) rfl (Nat.le_of_ble_eq_true rfl) dX7_wise_65 rfl (fun r_11 => ?_)
    refine zo_aload_n hC dX7_wise_68 rfl 1 rfl ?_
    refine zo_getR hC (r := 11) fk7_40 (by decide) gr_0_5 at_0 dX7_wise_69 ?_
    refine zo_iload_n hC dX7_wise_72 rfl 4 rfl ?_
    refine zo_callV_l hC (ci := 1) [.int v3] [.long r_11] me_X1_unit mlX7_213 im_X1_unit se_X1_unit rfl (by decide) at_11 (fun p hp => T_X1_unit v3 I_7 L_8 p hp) (by decide) rfl (Nat.le_of_ble_eq_true rfl) dX7_wise_73 rfl (fun r_12 => ?_)
    refine zo_iload hC dX7_wise_76 5 rfl ?_
    refine zo_callS_l hC [.long r_11, .long r_12, .int v4] [] me_X7_part mlX7_217 sm_X7_part (fun p hp => T_X7_part r_11 r_12 v4 I_7 L_8 p hp) (by decide) rfl (Nat.le_of_ble_eq_true rfl) dX7_wise_78 rfl (fun r_13 => ?_)
    exact zo_lret hC rfl dX7_wise_81
  · refine zo_ldc2 (v := (-1)) hC clX7_207 dX7_wise_19 ?_
    exact zo_lret hC rfl dX7_wise_22

theorem T_X7_wise (v1 : Int32) (v2 : Int32) (v3 : Int32) (v4 : Int32) (I : e_I) (L : e_L) (p : Int64 × e_I × e_L) (hp : f_X7_wise v1 v2 v3 v4 I L = some p) : Mt yX7_wise cX7_wise 6 (some .long) 6 gN [.ref 0, .int v1, .int v2, .int v3, .int v4] I L ((ph_lIL) p) := zo_enter hp (by decide) (Nat.le_of_ble_eq_true rfl) (fun X hC => Zf_X7_wise hC v1 v2 v3 v4 I L)
def f_X7_choice (v1 : Int32) (v2 : Int32) (v3 : Int32) (I : e_I) (L : e_L) : Option (Int32 × e_I × e_L) :=
  e_b1 (f_X7_troubleAhead 1 v1 v2 v3 I) (fun (r_1 : Int32) =>
  e_b2 (f_X7_refused r_1 I) (fun (r_2 : Int32) (I_3 : e_I) =>
  if r_2 = 0 then (
    e_b1 (f_X0_ruled 23 3 I_3) (fun (r_5 : Int32) =>
    e_b2 (f_X1_lookAhead 23 v3 r_5 I_3 L) (fun (I_6 : e_I) (L_7 : e_L) =>
    e_b1 (f_X7_stateOf v1 v2) (fun (r_8 : Int32) =>
    e_b1 (f_X1_choiceIn r_8 I_6 L_7) (fun (r_9 : Int32) =>
    some (r_9, I_6, L_7))))))
  else (
    some ((-1), I_3, L))))
set_option maxRecDepth 100000 in
set_option maxHeartbeats 4000000 in
theorem Zf_X7_choice {X : e_X} (hC : e_C X cX7_choice RX7 4 (some .int) 6 gN) (v1 : Int32) (v2 : Int32) (v3 : Int32) (I : e_I) (L : e_L) : Zo X (ph_iIL) (f_X7_choice v1 v2 v3 I L) 0 [(0, .ref 0), (1, .int v1), (2, .int v2), (3, .int v3)] [] I L := by
  unfold f_X7_choice
  refine zo_aload_n hC dX7_choice_0 rfl 0 rfl ?_
  refine zo_aload_n hC dX7_choice_1 rfl 0 rfl ?_
  refine zo_iconst (v := 1) hC (by decide) dX7_choice_2 ?_
  refine zo_iload_n hC dX7_choice_3 rfl 1 rfl ?_
  refine zo_iload_n hC dX7_choice_4 rfl 2 rfl ?_
  refine zo_iload_n hC dX7_choice_5 rfl 3 rfl ?_
  refine zo_callV_i hC (ci := 7) [.int 1, .int v1, .int v2, .int v3] [.ref 0] me_X7_troubleAhead mlX7_203 im_X7_troubleAhead se_X7_troubleAhead rfl (by decide) at_0 (fun p hp => T_X7_troubleAhead 1 v1 v2 v3 I L p hp) (by decide) rfl (Nat.le_of_ble_eq_true rfl) dX7_choice_6 rfl (fun r_1 => ?_)
  refine zo_callV_iI hC (ci := 7) [.int r_1] [] me_X7_refused mlX7_70 im_X7_refused se_X7_refused rfl (by decide) at_0 (fun p hp => T_X7_refused r_1 I L p hp) (by decide) rfl (Nat.le_of_ble_eq_true rfl) dX7_choice_9 rfl (fun r_2 I_3 => ?_)
  refine zo_if_eq (tgt := 17) hC dX7_choice_12 (by decide) (fun c_4 => ?_) (fun c_4 => ?_)
  · refine zo_aload_n hC dX7_choice_17 rfl 0 rfl ?_
    refine zo_getR hC (r := 11) fk7_40 (by decide) gr_0_5 at_0 dX7_choice_18 ?_
    refine zo_aload_n hC dX7_choice_21 rfl 0 rfl ?_
    refine zo_getR hC (r := 23) fk7_23 (by decide) gr_0_2 at_0 dX7_choice_22 ?_
    refine zo_iload_n hC dX7_choice_25 rfl 3 rfl ?_
    refine zo_aload_n hC dX7_choice_26 rfl 0 rfl ?_
    refine zo_getR hC (r := 23) fk7_23 (by decide) gr_0_2 at_0 dX7_choice_27 ?_
    refine zo_iconst (v := 3) hC (by decide) dX7_choice_30 ?_
    refine zo_callV_i hC (ci := 0) [.int 3] [.int v3, .ref 23, .ref 11] me_X0_ruled mlX7_139 im_X0_ruled se_X0_ruled rfl (by decide) at_23 (fun p hp => T_X0_ruled 23 isG_23 3 I_3 L p hp) (by decide) rfl (Nat.le_of_ble_eq_true rfl) dX7_choice_31 rfl (fun r_5 => ?_)
    refine zo_callV_vIL hC (ci := 1) [.ref 23, .int v3, .int r_5] [] me_X1_lookAhead mlX7_224 im_X1_lookAhead se_X1_lookAhead rfl (by decide) at_11 (fun p hp => T_X1_lookAhead 23 isG_23 v3 r_5 I_3 L p hp) (by decide) rfl (Nat.le_of_ble_eq_true rfl) dX7_choice_34 rfl (fun I_6 L_7 => ?_)
    refine zo_aload_n hC dX7_choice_37 rfl 0 rfl ?_
    refine zo_getR hC (r := 11) fk7_40 (by decide) gr_0_5 at_0 dX7_choice_38 ?_
    refine zo_iload_n hC dX7_choice_41 rfl 1 rfl ?_
    refine zo_iload_n hC dX7_choice_42 rfl 2 rfl ?_
    refine zo_callS_i hC [.int v1, .int v2] [.ref 11] me_X7_stateOf mlX7_178 sm_X7_stateOf (fun p hp => T_X7_stateOf v1 v2 I_6 L_7 p hp) (by decide) rfl (Nat.le_of_ble_eq_true rfl) dX7_choice_43 rfl (fun r_8 => ?_)
    refine zo_callV_i hC (ci := 1) [.int r_8] [] me_X1_choiceIn mlX7_228 im_X1_choiceIn se_X1_choiceIn rfl (by decide) at_11 (fun p hp => T_X1_choiceIn r_8 I_6 L_7 p hp) (by decide) rfl (Nat.le_of_ble_eq_true rfl) dX7_choice_46 rfl (fun r_9 => ?_)
    exact zo_iret hC rfl dX7_choice_49
  · refine zo_iconst (v := (-1)) hC (by decide) dX7_choice_15 ?_
    exact zo_iret hC rfl dX7_choice_16

theorem T_X7_choice (v1 : Int32) (v2 : Int32) (v3 : Int32) (I : e_I) (L : e_L) (p : Int32 × e_I × e_L) (hp : f_X7_choice v1 v2 v3 I L = some p) : Mt yX7_choice cX7_choice 4 (some .int) 6 gN [.ref 0, .int v1, .int v2, .int v3] I L ((ph_iIL) p) := zo_enter hp (by decide) (Nat.le_of_ble_eq_true rfl) (fun X hC => Zf_X7_choice hC v1 v2 v3 I L)
def f_X2_canChoose_29 (I : e_I) (s0 : Int32) : Option (Int32) :=
  e_as (s0 = 0 ∨ s0 = 1) (
  some s0)
set_option maxRecDepth 100000 in
set_option maxHeartbeats 4000000 in
theorem Zf_X2_canChoose_29 {X : e_X} (hC : e_C X cX2_canChoose RX2 3 (some .boolean) 2 gN) (I : e_I) (L : e_L) (s0 : Int32) : Zo X (ph_i I L) (f_X2_canChoose_29 I s0) 29 [] [.int s0] I L := by
  unfold f_X2_canChoose_29
  refine zo_as (fun h_1 => ?_)
  exact zo_zret hC h_1 rfl dX2_canChoose_29

def f_X2_canChoose_24 (I : e_I) : Option (Int32) :=
  f_X2_canChoose_29 I 1
set_option maxRecDepth 100000 in
set_option maxHeartbeats 4000000 in
theorem Zf_X2_canChoose_24 {X : e_X} (hC : e_C X cX2_canChoose RX2 3 (some .boolean) 2 gN) (I : e_I) (L : e_L) : Zo X (ph_i I L) (f_X2_canChoose_24 I) 24 [] [] I L := by
  unfold f_X2_canChoose_24
  refine zo_iconst (v := 1) hC (by decide) dX2_canChoose_24 ?_
  refine zo_goto (tgt := 29) hC dX2_canChoose_25 (by decide) ?_
  exact Zf_X2_canChoose_29 hC I L 1

def f_X2_canChoose_17 (I : e_I) (v2 : Int32) (s0 : Int32) : Option (Int32) :=
  e_b1 (f_X2_can s0 v2 I) (fun (r_1 : Int32) =>
  if r_1 = 0 then (
    f_X2_canChoose_29 I 0)
  else (
    f_X2_canChoose_24 I ))
set_option maxRecDepth 100000 in
set_option maxHeartbeats 4000000 in
theorem Zf_X2_canChoose_17 {X : e_X} (hC : e_C X cX2_canChoose RX2 3 (some .boolean) 2 gN) (I : e_I) (L : e_L) (v2 : Int32) (s0 : Int32) : Zo X (ph_i I L) (f_X2_canChoose_17 I v2 s0) 17 [(2, .int v2)] [.int s0, .ref 12] I L := by
  unfold f_X2_canChoose_17
  refine zo_iload_n hC dX2_canChoose_17 rfl 0 rfl ?_
  refine zo_callV_i hC (ci := 2) [.int s0, .int v2] [] me_X2_can mlX2_65 im_X2_can se_X2_can rfl (by decide) at_12 (fun p hp => T_X2_can s0 v2 I L p hp) (by decide) rfl (Nat.le_of_ble_eq_true rfl) dX2_canChoose_18 rfl (fun r_1 => ?_)
  refine zo_if_eq (tgt := 28) hC dX2_canChoose_21 (by decide) (fun c_2 => ?_) (fun c_2 => ?_)
  · refine zo_iconst (v := 0) hC (by decide) dX2_canChoose_28 ?_
    refine zo_sub [] (lv' := []) rfl ?_
    exact Zf_X2_canChoose_29 hC I L 0
  · refine zo_sub [] (lv' := []) rfl ?_
    exact Zf_X2_canChoose_24 hC I L 

def f_X2_canChoose (v1 : Int32) (v2 : Int32) (I : e_I) : Option (Int32) :=
  if v1 = 0 then (
    f_X2_canChoose_24 I )
  else (
    if v1 ≠ 1 then (
      f_X2_canChoose_17 I v2 7)
    else (
      f_X2_canChoose_17 I v2 6))
set_option maxRecDepth 100000 in
set_option maxHeartbeats 4000000 in
theorem Zf_X2_canChoose {X : e_X} (hC : e_C X cX2_canChoose RX2 3 (some .boolean) 2 gN) (v1 : Int32) (v2 : Int32) (I : e_I) (L : e_L) : Zo X (ph_i I L) (f_X2_canChoose v1 v2 I) 0 [(0, .ref 12), (1, .int v1), (2, .int v2)] [] I L := by
  unfold f_X2_canChoose
  refine zo_iload_n hC dX2_canChoose_0 rfl 1 rfl ?_
  refine zo_if_eq (tgt := 24) hC dX2_canChoose_1 (by decide) (fun c_1 => ?_) (fun c_1 => ?_)
  · refine zo_sub [] (lv' := []) rfl ?_
    exact Zf_X2_canChoose_24 hC I L 
  · refine zo_aload_n hC dX2_canChoose_4 rfl 0 rfl ?_
    refine zo_iload_n hC dX2_canChoose_5 rfl 1 rfl ?_
    refine zo_iconst (v := 1) hC (by decide) dX2_canChoose_6 ?_
    refine zo_icmp_ne (tgt := 15) hC dX2_canChoose_7 (by decide) (fun c_2 => ?_) (fun c_2 => ?_)
    · refine zo_bipush (v := 7) hC (by decide) dX2_canChoose_15 ?_
      refine zo_sub [2] (lv' := [(2, .int v2)]) rfl ?_
      exact Zf_X2_canChoose_17 hC I L v2 7
    · refine zo_bipush (v := 6) hC (by decide) dX2_canChoose_10 ?_
      refine zo_goto (tgt := 17) hC dX2_canChoose_12 (by decide) ?_
      refine zo_sub [2] (lv' := [(2, .int v2)]) rfl ?_
      exact Zf_X2_canChoose_17 hC I L v2 6

theorem T_X2_canChoose (v1 : Int32) (v2 : Int32) (I : e_I) (L : e_L) (p : Int32) (hp : f_X2_canChoose v1 v2 I = some p) : Mt yX2_canChoose cX2_canChoose 3 (some .boolean) 2 gN [.ref 12, .int v1, .int v2] I L ((ph_i I L) p) := zo_enter hp (by decide) (Nat.le_of_ble_eq_true rfl) (fun X hC => Zf_X2_canChoose hC v1 v2 I L)
def f_X7_troubleOfWay_62 (I : e_I) (s0 : Int32) : Option (Int32) :=
  some s0
set_option maxRecDepth 100000 in
set_option maxHeartbeats 4000000 in
theorem Zf_X7_troubleOfWay_62 {X : e_X} (hC : e_C X cX7_troubleOfWay RX7 7 (some .int) 3 gN) (I : e_I) (L : e_L) (s0 : Int32) : Zo X (ph_i I L) (f_X7_troubleOfWay_62 I s0) 62 [] [.int s0] I L := by
  unfold f_X7_troubleOfWay_62
  exact zo_iret hC rfl dX7_troubleOfWay_62

def f_X7_troubleOfWay_20 (I : e_I) (v2 : Int32) (v3 : Int32) (v4 : Int32) (v5 : Int32) (s0 : Int32) : Option (Int32) :=
  e_b1 (f_X7_troubleAhead s0 v2 v3 v4 I) (fun (r_1 : Int32) =>
  if r_1 = 0 then (
    e_b1 (f_X7_stateOf v2 v3) (fun (r_3 : Int32) =>
    e_b1 (f_X2_canChoose v5 r_3 I) (fun (r_4 : Int32) =>
    if r_4 = 0 then (
      f_X7_troubleOfWay_62 I 5)
    else (
      f_X7_troubleOfWay_62 I 0))))
  else (
    some r_1))
set_option maxRecDepth 100000 in
set_option maxHeartbeats 4000000 in
theorem Zf_X7_troubleOfWay_20 {X : e_X} (hC : e_C X cX7_troubleOfWay RX7 7 (some .int) 3 gN) (I : e_I) (L : e_L) (v2 : Int32) (v3 : Int32) (v4 : Int32) (v5 : Int32) (s0 : Int32) : Zo X (ph_i I L) (f_X7_troubleOfWay_20 I v2 v3 v4 v5 s0) 20 [(0, .ref 0), (2, .int v2), (3, .int v3), (4, .int v4), (5, .int v5)] [.int s0, .ref 0] I L := by
  unfold f_X7_troubleOfWay_20
  refine zo_iload_n hC dX7_troubleOfWay_20 rfl 1 rfl ?_
  refine zo_iload_n hC dX7_troubleOfWay_21 rfl 2 rfl ?_
  refine zo_iload hC dX7_troubleOfWay_22 3 rfl ?_
  refine zo_callV_i hC (ci := 7) [.int s0, .int v2, .int v3, .int v4] [] me_X7_troubleAhead mlX7_203 im_X7_troubleAhead se_X7_troubleAhead rfl (by decide) at_0 (fun p hp => T_X7_troubleAhead s0 v2 v3 v4 I L p hp) (by decide) rfl (Nat.le_of_ble_eq_true rfl) dX7_troubleOfWay_24 rfl (fun r_1 => ?_)
  refine zo_istore (lv' := [(6, .int r_1), (0, .ref 0), (2, .int v2), (3, .int v3), (4, .int v4), (5, .int v5)]) hC dX7_troubleOfWay_27 (by decide) rfl ?_
  refine zo_iload hC dX7_troubleOfWay_29 0 rfl ?_
  refine zo_if_eq (tgt := 37) hC dX7_troubleOfWay_31 (by decide) (fun c_2 => ?_) (fun c_2 => ?_)
  · refine zo_aload_n hC dX7_troubleOfWay_37 rfl 1 rfl ?_
    refine zo_getR hC (r := 11) fk7_40 (by decide) gr_0_5 at_0 dX7_troubleOfWay_38 ?_
    refine zo_getR hC (r := 12) fk7_181 (by decide) gr_11_0 at_11 dX7_troubleOfWay_41 ?_
    refine zo_iload hC dX7_troubleOfWay_44 5 rfl ?_
    refine zo_iload_n hC dX7_troubleOfWay_46 rfl 2 rfl ?_
    refine zo_iload_n hC dX7_troubleOfWay_47 rfl 3 rfl ?_
    refine zo_callS_i hC [.int v2, .int v3] [.int v5, .ref 12] me_X7_stateOf mlX7_178 sm_X7_stateOf (fun p hp => T_X7_stateOf v2 v3 I L p hp) (by decide) rfl (Nat.le_of_ble_eq_true rfl) dX7_troubleOfWay_48 rfl (fun r_3 => ?_)
    refine zo_callV_i hC (ci := 2) [.int v5, .int r_3] [] me_X2_canChoose mlX7_249 im_X2_canChoose se_X2_canChoose rfl (by decide) at_12 (fun p hp => T_X2_canChoose v5 r_3 I L p hp) (by decide) rfl (Nat.le_of_ble_eq_true rfl) dX7_troubleOfWay_51 rfl (fun r_4 => ?_)
    refine zo_if_eq (tgt := 61) hC dX7_troubleOfWay_54 (by decide) (fun c_5 => ?_) (fun c_5 => ?_)
    · refine zo_iconst (v := 5) hC (by decide) dX7_troubleOfWay_61 ?_
      refine zo_sub [] (lv' := []) rfl ?_
      exact Zf_X7_troubleOfWay_62 hC I L 5
    · refine zo_iconst (v := 0) hC (by decide) dX7_troubleOfWay_57 ?_
      refine zo_goto (tgt := 62) hC dX7_troubleOfWay_58 (by decide) ?_
      refine zo_sub [] (lv' := []) rfl ?_
      exact Zf_X7_troubleOfWay_62 hC I L 0
  · refine zo_iload hC dX7_troubleOfWay_34 0 rfl ?_
    exact zo_iret hC rfl dX7_troubleOfWay_36

def f_X7_troubleOfWay_19 (I : e_I) (v2 : Int32) (v3 : Int32) (v4 : Int32) (v5 : Int32) : Option (Int32) :=
  f_X7_troubleOfWay_20 I v2 v3 v4 v5 0
set_option maxRecDepth 100000 in
set_option maxHeartbeats 4000000 in
theorem Zf_X7_troubleOfWay_19 {X : e_X} (hC : e_C X cX7_troubleOfWay RX7 7 (some .int) 3 gN) (I : e_I) (L : e_L) (v2 : Int32) (v3 : Int32) (v4 : Int32) (v5 : Int32) : Zo X (ph_i I L) (f_X7_troubleOfWay_19 I v2 v3 v4 v5) 19 [(0, .ref 0), (2, .int v2), (3, .int v3), (4, .int v4), (5, .int v5)] [.ref 0] I L := by
  unfold f_X7_troubleOfWay_19
  refine zo_iconst (v := 0) hC (by decide) dX7_troubleOfWay_19 ?_
  exact Zf_X7_troubleOfWay_20 hC I L v2 v3 v4 v5 0

def f_X7_troubleOfWay (v1 : Int32) (v2 : Int32) (v3 : Int32) (v4 : Int32) (v5 : Int32) (I : e_I) : Option (Int32) :=
  if v1 = 0 then (
    f_X7_troubleOfWay_19 I v2 v3 v4 v5)
  else (
    e_b1 (f_X7_within v5 0 2) (fun (r_2 : Int32) =>
    if r_2 = 0 then (
      f_X7_troubleOfWay_19 I v2 v3 v4 v5)
    else (
      f_X7_troubleOfWay_20 I v2 v3 v4 v5 1)))
set_option maxRecDepth 100000 in
set_option maxHeartbeats 4000000 in
theorem Zf_X7_troubleOfWay {X : e_X} (hC : e_C X cX7_troubleOfWay RX7 7 (some .int) 3 gN) (v1 : Int32) (v2 : Int32) (v3 : Int32) (v4 : Int32) (v5 : Int32) (I : e_I) (L : e_L) : Zo X (ph_i I L) (f_X7_troubleOfWay v1 v2 v3 v4 v5 I) 0 [(0, .ref 0), (1, .int v1), (2, .int v2), (3, .int v3), (4, .int v4), (5, .int v5)] [] I L := by
  unfold f_X7_troubleOfWay
  refine zo_aload_n hC dX7_troubleOfWay_0 rfl 0 rfl ?_
  refine zo_iload_n hC dX7_troubleOfWay_1 rfl 1 rfl ?_
  refine zo_if_eq (tgt := 19) hC dX7_troubleOfWay_2 (by decide) (fun c_1 => ?_) (fun c_1 => ?_)
  · refine zo_sub [0, 2, 3, 4, 5] (lv' := [(0, .ref 0), (2, .int v2), (3, .int v3), (4, .int v4), (5, .int v5)]) rfl ?_
    exact Zf_X7_troubleOfWay_19 hC I L v2 v3 v4 v5
  · refine zo_iload hC dX7_troubleOfWay_5 5 rfl ?_
    refine zo_iconst (v := 0) hC (by decide) dX7_troubleOfWay_7 ?_
    refine zo_iconst (v := 2) hC (by decide) dX7_troubleOfWay_8 ?_
    refine zo_callS_i hC [.int v5, .int 0, .int 2] [.ref 0] me_X7_within mlX7_66 sm_X7_within (fun p hp => T_X7_within v5 0 2 I L p hp) (by decide) rfl (Nat.le_of_ble_eq_true rfl) dX7_troubleOfWay_9 rfl (fun r_2 => ?_)
    refine zo_if_eq (tgt := 19) hC dX7_troubleOfWay_12 (by decide) (fun c_3 => ?_) (fun c_3 => ?_)
    · refine zo_sub [0, 2, 3, 4, 5] (lv' := [(0, .ref 0), (2, .int v2), (3, .int v3), (4, .int v4), (5, .int v5)]) rfl ?_
      exact Zf_X7_troubleOfWay_19 hC I L v2 v3 v4 v5
    · refine zo_iconst (v := 1) hC (by decide) dX7_troubleOfWay_15 ?_
      refine zo_goto (tgt := 20) hC dX7_troubleOfWay_16 (by decide) ?_
      refine zo_sub [0, 2, 3, 4, 5] (lv' := [(0, .ref 0), (2, .int v2), (3, .int v3), (4, .int v4), (5, .int v5)]) rfl ?_
      exact Zf_X7_troubleOfWay_20 hC I L v2 v3 v4 v5 1

theorem T_X7_troubleOfWay (v1 : Int32) (v2 : Int32) (v3 : Int32) (v4 : Int32) (v5 : Int32) (I : e_I) (L : e_L) (p : Int32) (hp : f_X7_troubleOfWay v1 v2 v3 v4 v5 I = some p) : Mt yX7_troubleOfWay cX7_troubleOfWay 7 (some .int) 3 gN [.ref 0, .int v1, .int v2, .int v3, .int v4, .int v5] I L ((ph_i I L) p) := zo_enter hp (by decide) (Nat.le_of_ble_eq_true rfl) (fun X hC => Zf_X7_troubleOfWay hC v1 v2 v3 v4 v5 I L)
