def f_X7_trouble (I : e_I) : Option (Int32) :=
  some (I 0 8)
set_option maxRecDepth 100000 in
set_option maxHeartbeats 4000000 in
theorem Zf_X7_trouble {X : e_X} (hC : e_C X cX7_trouble RX7 1 (some .int) 0 gN) (I : e_I) (L : e_L) : Zo X (ph_i I L) (f_X7_trouble I) 0 [(0, .ref 0)] [] I L := by
  unfold f_X7_trouble
  refine zo_aload_n hC dX7_trouble_0 rfl 0 rfl ?_
  refine zo_getI hC fk7_107 at_0 dX7_trouble_1 ?_
  exact zo_iret hC rfl dX7_trouble_4

theorem T_X7_trouble (I : e_I) (L : e_L) (p : Int32) (hp : f_X7_trouble I = some p) : Mt yX7_trouble cX7_trouble 1 (some .int) 0 gN [.ref 0] I L ((ph_i I L) p) := zo_enter hp (by decide) (Nat.le_of_ble_eq_true rfl) (fun X hC => Zf_X7_trouble hC I L)
def f_X6_coded_4 (w0 : Nat) (k28 : Int32 → Option (Int32)) : Nat → Int32 → Int32 → Option (Int32)
  | 0, _, _ => none
  | n + 1, v1, v2 =>
    if v2 ≥ (e_sl w0) then (
      k28 v1)
    else (
      e_as (e_ix v2 (e_sn w0) = true) (
      e_b1 (f_X6_withLetter v1 (e_sc w0 v2)) (fun (r_3 : Int32) =>
      e_let (v2 + 1) (fun (x_4 : Int32) =>
      f_X6_coded_4 w0 k28 n r_3 x_4))))
set_option maxRecDepth 100000 in
set_option maxHeartbeats 4000000 in
theorem Zf_X6_coded_4 {X : e_X} (hC : e_C X cX6_coded RX6 3 (some .int) 4 gN) (w0 : Nat) (hw0 : e_iw w0) (I : e_I) (L : e_L) (k28 : Int32 → Option (Int32)) (hk28 : ∀ (v1 : Int32), Zo X (ph_i I L) (k28 v1) 28 [(1, .int v1)] [] I L) : ∀ (n : Nat) (v1 : Int32) (v2 : Int32), Zo X (ph_i I L) (f_X6_coded_4 w0 k28 n v1 v2) 4 [(0, .ref w0), (1, .int v1), (2, .int v2)] [] I L := by
  intro n
  induction n with
  | zero => intro v1 v2 p hp; cases hp
  | succ n ih =>
    intro v1 v2
    unfold f_X6_coded_4
    refine zo_iload_n hC dX6_coded_4 rfl 2 rfl ?_
    refine zo_aload_n hC dX6_coded_5 rfl 0 rfl ?_
    refine zo_slen hC hw0 mlX6_138 (by decide) (Nat.le_of_ble_eq_true rfl) dX6_coded_6 ?_
    refine zo_icmp_ge (tgt := 28) hC dX6_coded_9 (by decide) (fun c_1 => ?_) (fun c_1 => ?_)
    · refine zo_sub [1] (lv' := [(1, .int v1)]) rfl ?_
      exact hk28 v1
    · refine zo_iload_n hC dX6_coded_12 rfl 1 rfl ?_
      refine zo_aload_n hC dX6_coded_13 rfl 0 rfl ?_
      refine zo_iload_n hC dX6_coded_14 rfl 2 rfl ?_
      refine zo_as (fun h_2 => ?_)
      refine zo_scharAt hC hw0 h_2 mlX6_143 (by decide) (Nat.le_of_ble_eq_true rfl) dX6_coded_15 ?_
      refine zo_callS_i hC [.int v1, .int (e_sc w0 v2)] [] me_X6_withLetter mlX6_135 sm_X6_withLetter (fun p hp => T_X6_withLetter v1 (e_sc w0 v2) I L p hp) (by decide) rfl (Nat.le_of_ble_eq_true rfl) dX6_coded_18 rfl (fun r_3 => ?_)
      refine zo_istore_n (lv' := [(1, .int r_3), (0, .ref w0), (2, .int v2)]) hC dX6_coded_21 rfl (by decide) rfl ?_
      refine zo_iinc hC (x := v2) (fun x_4 => [(2, .int x_4), (1, .int r_3), (0, .ref w0)]) dX6_coded_22 2 rfl (by rfl) (by decide) (fun _ => rfl) (fun x_4 => ?_)
      refine zo_goto (tgt := 4) hC dX6_coded_25 (by decide) ?_
      refine zo_sub [2, 1, 0] (lv' := [(0, .ref w0), (1, .int r_3), (2, .int x_4)]) rfl ?_
      exact ih r_3 x_4

def f_X6_coded (w0 : Nat) : Option (Int32) :=
  f_X6_coded_4 w0 (fun (v1_1 : Int32) =>
    some v1_1) e_FU 0 0
set_option maxRecDepth 100000 in
set_option maxHeartbeats 4000000 in
theorem Zf_X6_coded {X : e_X} (hC : e_C X cX6_coded RX6 3 (some .int) 4 gN) (w0 : Nat) (hw0 : e_iw w0) (I : e_I) (L : e_L) : Zo X (ph_i I L) (f_X6_coded w0) 0 [(0, .ref w0)] [] I L := by
  unfold f_X6_coded
  refine zo_iconst (v := 0) hC (by decide) dX6_coded_0 ?_
  refine zo_istore_n (lv' := [(1, .int 0), (0, .ref w0)]) hC dX6_coded_1 rfl (by decide) rfl ?_
  refine zo_iconst (v := 0) hC (by decide) dX6_coded_2 ?_
  refine zo_istore_n (lv' := [(2, .int 0), (1, .int 0), (0, .ref w0)]) hC dX6_coded_3 rfl (by decide) rfl ?_
  refine zo_sub [2, 1, 0] (lv' := [(0, .ref w0), (1, .int 0), (2, .int 0)]) rfl ?_
  refine Zf_X6_coded_4 hC w0 hw0 I L _ (fun v1_1 => ?_) e_FU 0 0
  · refine zo_iload_n hC dX6_coded_28 rfl 0 rfl ?_
    exact zo_iret hC rfl dX6_coded_29

theorem T_X6_coded (w0 : Nat) (hw0 : e_iw w0) (I : e_I) (L : e_L) (p : Int32) (hp : f_X6_coded w0 = some p) : Mt yX6_coded cX6_coded 3 (some .int) 4 gN [.ref w0] I L ((ph_i I L) p) := zo_enter hp (by decide) (Nat.le_of_ble_eq_true rfl) (fun X hC => Zf_X6_coded hC w0 hw0 I L)
