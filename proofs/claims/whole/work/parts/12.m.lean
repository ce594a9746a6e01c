def f_X0_hasRow_17 (g : Nat) (I : e_I) (s0 : Int32) : Option (Int32) :=
  e_as (s0 = 0 ∨ s0 = 1) (
  some s0)
set_option maxRecDepth 100000 in
set_option maxHeartbeats 4000000 in
theorem Zf_X0_hasRow_17 {X : e_X} (hC : e_C X cX0_hasRow RX0 2 (some .boolean) 0 gN) (g : Nat) (hg : e_isG g) (I : e_I) (L : e_L) (s0 : Int32) : Zo X (ph_i I L) (f_X0_hasRow_17 g I s0) 17 [] [.int s0] I L := by
  unfold f_X0_hasRow_17
  refine zo_as (fun h_1 => ?_)
  exact zo_zret hC h_1 rfl dX0_hasRow_17

def f_X0_hasRow_16 (g : Nat) (I : e_I) : Option (Int32) :=
  f_X0_hasRow_17 g I 0
set_option maxRecDepth 100000 in
set_option maxHeartbeats 4000000 in
theorem Zf_X0_hasRow_16 {X : e_X} (hC : e_C X cX0_hasRow RX0 2 (some .boolean) 0 gN) (g : Nat) (hg : e_isG g) (I : e_I) (L : e_L) : Zo X (ph_i I L) (f_X0_hasRow_16 g I) 16 [] [] I L := by
  unfold f_X0_hasRow_16
  refine zo_iconst (v := 0) hC (by decide) dX0_hasRow_16 ?_
  exact Zf_X0_hasRow_17 hC g hg I L 0

def f_X0_hasRow (g : Nat) (v1 : Int32) (I : e_I) : Option (Int32) :=
  if v1 < 0 then (
    f_X0_hasRow_16 g I )
  else (
    if v1 ≥ (I g 6) then (
      f_X0_hasRow_16 g I )
    else (
      f_X0_hasRow_17 g I 1))
set_option maxRecDepth 100000 in
set_option maxHeartbeats 4000000 in
theorem Zf_X0_hasRow {X : e_X} (hC : e_C X cX0_hasRow RX0 2 (some .boolean) 0 gN) (g : Nat) (hg : e_isG g) (v1 : Int32) (I : e_I) (L : e_L) : Zo X (ph_i I L) (f_X0_hasRow g v1 I) 0 [(0, .ref g), (1, .int v1)] [] I L := by
  unfold f_X0_hasRow
  refine zo_iload_n hC dX0_hasRow_0 rfl 1 rfl ?_
  refine zo_if_lt (tgt := 16) hC dX0_hasRow_1 (by decide) (fun c_1 => ?_) (fun c_1 => ?_)
  · refine zo_sub [] (lv' := []) rfl ?_
    exact Zf_X0_hasRow_16 hC g hg I L 
  · refine zo_iload_n hC dX0_hasRow_4 rfl 1 rfl ?_
    refine zo_aload_n hC dX0_hasRow_5 rfl 0 rfl ?_
    refine zo_getI hC fk0_57 (atG hg) dX0_hasRow_6 ?_
    refine zo_icmp_ge (tgt := 16) hC dX0_hasRow_9 (by decide) (fun c_2 => ?_) (fun c_2 => ?_)
    · refine zo_sub [] (lv' := []) rfl ?_
      exact Zf_X0_hasRow_16 hC g hg I L 
    · refine zo_iconst (v := 1) hC (by decide) dX0_hasRow_12 ?_
      refine zo_goto (tgt := 17) hC dX0_hasRow_13 (by decide) ?_
      refine zo_sub [] (lv' := []) rfl ?_
      exact Zf_X0_hasRow_17 hC g hg I L 1

theorem T_X0_hasRow (g : Nat) (hg : e_isG g) (v1 : Int32) (I : e_I) (L : e_L) (p : Int32) (hp : f_X0_hasRow g v1 I = some p) : Mt yX0_hasRow cX0_hasRow 2 (some .boolean) 0 gN [.ref g, .int v1] I L ((ph_i I L) p) := zo_enter hp (by decide) (Nat.le_of_ble_eq_true rfl) (fun X hC => Zf_X0_hasRow hC g hg v1 I L)
def f_X0_noted_17 (g : Nat) (I : e_I) : Option (Int32) :=
  some (-1)
set_option maxRecDepth 100000 in
set_option maxHeartbeats 4000000 in
theorem Zf_X0_noted_17 {X : e_X} (hC : e_C X cX0_noted RX0 4 (some .int) 1 gN) (g : Nat) (hg : e_isG g) (I : e_I) (L : e_L) : Zo X (ph_i I L) (f_X0_noted_17 g I) 17 [] [] I L := by
  unfold f_X0_noted_17
  refine zo_iconst (v := (-1)) hC (by decide) dX0_noted_17 ?_
  exact zo_iret hC rfl dX0_noted_18

def f_X0_noted_45 (g : Nat) (I : e_I) (v2 : Int32) (s0 : Int32) : Option (Int32) :=
  e_as (e_ix ((s0 * 6) + v2) 240 = true) (
  some (I (g + 4) ((s0 * 6) + v2).toNatClampNeg))
set_option maxRecDepth 100000 in
set_option maxHeartbeats 4000000 in
theorem Zf_X0_noted_45 {X : e_X} (hC : e_C X cX0_noted RX0 4 (some .int) 1 gN) (g : Nat) (hg : e_isG g) (I : e_I) (L : e_L) (v2 : Int32) (s0 : Int32) : Zo X (ph_i I L) (f_X0_noted_45 g I v2 s0) 45 [(0, .ref g), (2, .int v2)] [.int s0] I L := by
  unfold f_X0_noted_45
  refine zo_istore_n (lv' := [(3, .int s0), (0, .ref g), (2, .int v2)]) hC dX0_noted_45 rfl (by decide) rfl ?_
  refine zo_aload_n hC dX0_noted_46 rfl 1 rfl ?_
  refine zo_getR hC (r := (g + 4)) fk0_21 (by decide) (grG11 hg) (atG hg) dX0_noted_47 ?_
  refine zo_iload_n hC dX0_noted_50 rfl 0 rfl ?_
  refine zo_bipush (v := 6) hC (by decide) dX0_noted_51 ?_
  refine zo_imul hC dX0_noted_53 ?_
  refine zo_iload_n hC dX0_noted_54 rfl 2 rfl ?_
  refine zo_iadd hC dX0_noted_55 ?_
  refine zo_as (fun h_1 => ?_)
  refine zo_iald hC (arG4 hg) (e_ix_vp h_1) dX0_noted_56 ?_
  exact zo_iret hC rfl dX0_noted_57

def f_X0_noted (g : Nat) (v1 : Int32) (v2 : Int32) (I : e_I) : Option (Int32) :=
  e_b1 (f_X0_hasRow g v1 I) (fun (r_1 : Int32) =>
  if r_1 = 0 then (
    f_X0_noted_17 g I )
  else (
    e_b1 (f_X7_within v2 0 5) (fun (r_3 : Int32) =>
    if r_3 ≠ 0 then (
      if (I g 7) < v1 then (
        f_X0_noted_45 g I v2 (((I g 7) - v1) + 40))
      else (
        f_X0_noted_45 g I v2 ((I g 7) - v1)))
    else (
      f_X0_noted_17 g I ))))
set_option maxRecDepth 100000 in
set_option maxHeartbeats 4000000 in
theorem Zf_X0_noted {X : e_X} (hC : e_C X cX0_noted RX0 4 (some .int) 1 gN) (g : Nat) (hg : e_isG g) (v1 : Int32) (v2 : Int32) (I : e_I) (L : e_L) : Zo X (ph_i I L) (f_X0_noted g v1 v2 I) 0 [(0, .ref g), (1, .int v1), (2, .int v2)] [] I L := by
  unfold f_X0_noted
  refine zo_aload_n hC dX0_noted_0 rfl 0 rfl ?_
  refine zo_iload_n hC dX0_noted_1 rfl 1 rfl ?_
  refine zo_callV_i hC (ci := 0) [.int v1] [] me_X0_hasRow mlX0_108 im_X0_hasRow se_X0_hasRow rfl (by decide) (atG hg) (fun p hp => T_X0_hasRow g hg v1 I L p hp) (by decide) rfl (Nat.le_of_ble_eq_true rfl) dX0_noted_2 rfl (fun r_1 => ?_)
  refine zo_if_eq (tgt := 17) hC dX0_noted_5 (by decide) (fun c_2 => ?_) (fun c_2 => ?_)
  · refine zo_sub [] (lv' := []) rfl ?_
    exact Zf_X0_noted_17 hC g hg I L 
  · refine zo_iload_n hC dX0_noted_8 rfl 2 rfl ?_
    refine zo_iconst (v := 0) hC (by decide) dX0_noted_9 ?_
    refine zo_iconst (v := 5) hC (by decide) dX0_noted_10 ?_
    refine zo_callSN_i hC [.int v2, .int 0, .int 5] [] me_X7_within (List.mem_of_getElem? (i := 5) rfl) sm_X7_within (fun p hp => T_X7_within v2 0 5 I L p hp) (by decide) rfl (Nat.le_of_ble_eq_true rfl) dX0_noted_11 rfl (fun r_3 => ?_)
    refine zo_if_ne (tgt := 19) hC dX0_noted_14 (by decide) (fun c_4 => ?_) (fun c_4 => ?_)
    · refine zo_aload_n hC dX0_noted_19 rfl 0 rfl ?_
      refine zo_getI hC fk0_60 (atG hg) dX0_noted_20 ?_
      refine zo_iload_n hC dX0_noted_23 rfl 1 rfl ?_
      refine zo_icmp_lt (tgt := 36) hC dX0_noted_24 (by decide) (fun c_5 => ?_) (fun c_5 => ?_)
      · refine zo_aload_n hC dX0_noted_36 rfl 0 rfl ?_
        refine zo_getI hC fk0_60 (atG hg) dX0_noted_37 ?_
        refine zo_iload_n hC dX0_noted_40 rfl 1 rfl ?_
        refine zo_isub hC dX0_noted_41 ?_
        refine zo_bipush (v := 40) hC (by decide) dX0_noted_42 ?_
        refine zo_iadd hC dX0_noted_44 ?_
        refine zo_sub [0, 2] (lv' := [(0, .ref g), (2, .int v2)]) rfl ?_
        exact Zf_X0_noted_45 hC g hg I L v2 (((I g 7) - v1) + 40)
      · refine zo_aload_n hC dX0_noted_27 rfl 0 rfl ?_
        refine zo_getI hC fk0_60 (atG hg) dX0_noted_28 ?_
        refine zo_iload_n hC dX0_noted_31 rfl 1 rfl ?_
        refine zo_isub hC dX0_noted_32 ?_
        refine zo_goto (tgt := 45) hC dX0_noted_33 (by decide) ?_
        refine zo_sub [0, 2] (lv' := [(0, .ref g), (2, .int v2)]) rfl ?_
        exact Zf_X0_noted_45 hC g hg I L v2 ((I g 7) - v1)
    · refine zo_sub [] (lv' := []) rfl ?_
      exact Zf_X0_noted_17 hC g hg I L 

theorem T_X0_noted (g : Nat) (hg : e_isG g) (v1 : Int32) (v2 : Int32) (I : e_I) (L : e_L) (p : Int32) (hp : f_X0_noted g v1 v2 I = some p) : Mt yX0_noted cX0_noted 4 (some .int) 1 gN [.ref g, .int v1, .int v2] I L ((ph_i I L) p) := zo_enter hp (by decide) (Nat.le_of_ble_eq_true rfl) (fun X hC => Zf_X0_noted hC g hg v1 v2 I L)
def f_X0_rowsOf_28 (g : Nat) (I : e_I) (v1 : Int32) (k4 : Int32 → Int32 → Option (Int32)) (k36 : Int32 → Option (Int32)) (v3 : Int32) (s0 : Int32) (s1 : Int32) : Option (Int32) :=
  e_let (s1 + s0) (fun (x_1 : Int32) =>
  e_let (v3 + 1) (fun (x_2 : Int32) =>
  k4 x_1 x_2))
set_option maxRecDepth 100000 in
set_option maxHeartbeats 4000000 in
theorem Zf_X0_rowsOf_28 {X : e_X} (hC : e_C X cX0_rowsOf RX0 4 (some .int) 2 gN) (g : Nat) (hg : e_isG g) (I : e_I) (L : e_L) (v1 : Int32) (k4 : Int32 → Int32 → Option (Int32)) (k36 : Int32 → Option (Int32)) (hk4 : ∀ (v2 : Int32) (v3 : Int32), Zo X (ph_i I L) (k4 v2 v3) 4 [(0, .ref g), (1, .int v1), (2, .int v2), (3, .int v3)] [] I L) (hk36 : ∀ (v2 : Int32), Zo X (ph_i I L) (k36 v2) 36 [(2, .int v2)] [] I L) (v3 : Int32) (s0 : Int32) (s1 : Int32) : Zo X (ph_i I L) (f_X0_rowsOf_28 g I v1 k4 k36 v3 s0 s1) 28 [(0, .ref g), (1, .int v1), (3, .int v3)] [.int s0, .int s1] I L := by
  unfold f_X0_rowsOf_28
  refine zo_iadd hC dX0_rowsOf_28 ?_
  refine zo_topi (fun x_1 => ?_)
  refine zo_istore_n (lv' := [(2, .int x_1), (0, .ref g), (1, .int v1), (3, .int v3)]) hC dX0_rowsOf_29 rfl (by decide) rfl ?_
  refine zo_iinc hC (x := v3) (fun x_2 => [(3, .int x_2), (2, .int x_1), (0, .ref g), (1, .int v1)]) dX0_rowsOf_30 3 rfl (by rfl) (by decide) (fun _ => rfl) (fun x_2 => ?_)
  refine zo_goto (tgt := 4) hC dX0_rowsOf_33 (by decide) ?_
  refine zo_sub [2, 3, 1, 0] (lv' := [(0, .ref g), (1, .int v1), (2, .int x_1), (3, .int x_2)]) rfl ?_
  exact hk4 x_1 x_2

def f_X0_rowsOf_4 (g : Nat) (I : e_I) (v1 : Int32) (k36 : Int32 → Option (Int32)) : Nat → Int32 → Int32 → Option (Int32)
  | 0, _, _ => none
  | n + 1, v2, v3 =>
    if v3 ≥ (I g 6) then (
      k36 v2)
    else (
      e_b1 (f_X0_noted g v3 0 I) (fun (r_2 : Int32) =>
      if r_2 ≠ v1 then (
        f_X0_rowsOf_28 g I v1 (fun v2 v3 => f_X0_rowsOf_4 g I v1 k36 n v2 v3) k36 v3 0 v2)
      else (
        f_X0_rowsOf_28 g I v1 (fun v2 v3 => f_X0_rowsOf_4 g I v1 k36 n v2 v3) k36 v3 1 v2)))
set_option maxRecDepth 100000 in
set_option maxHeartbeats 4000000 in
theorem Zf_X0_rowsOf_4 {X : e_X} (hC : e_C X cX0_rowsOf RX0 4 (some .int) 2 gN) (g : Nat) (hg : e_isG g) (I : e_I) (L : e_L) (v1 : Int32) (k36 : Int32 → Option (Int32)) (hk36 : ∀ (v2 : Int32), Zo X (ph_i I L) (k36 v2) 36 [(2, .int v2)] [] I L) : ∀ (n : Nat) (v2 : Int32) (v3 : Int32), Zo X (ph_i I L) (f_X0_rowsOf_4 g I v1 k36 n v2 v3) 4 [(0, .ref g), (1, .int v1), (2, .int v2), (3, .int v3)] [] I L := by
  intro n
  induction n with
  | zero => intro v2 v3 p hp; cases hp
  | succ n ih =>
    intro v2 v3
    unfold f_X0_rowsOf_4
    refine zo_iload_n hC dX0_rowsOf_4 rfl 3 rfl ?_
    refine zo_aload_n hC dX0_rowsOf_5 rfl 0 rfl ?_
    refine zo_getI hC fk0_57 (atG hg) dX0_rowsOf_6 ?_
    refine zo_icmp_ge (tgt := 36) hC dX0_rowsOf_9 (by decide) (fun c_1 => ?_) (fun c_1 => ?_)
    · refine zo_sub [2] (lv' := [(2, .int v2)]) rfl ?_
      exact hk36 v2
    · refine zo_iload_n hC dX0_rowsOf_12 rfl 2 rfl ?_
      refine zo_aload_n hC dX0_rowsOf_13 rfl 0 rfl ?_
      refine zo_iload_n hC dX0_rowsOf_14 rfl 3 rfl ?_
      refine zo_iconst (v := 0) hC (by decide) dX0_rowsOf_15 ?_
      refine zo_callV_i hC (ci := 0) [.int v3, .int 0] [.int v2] me_X0_noted mlX0_112 im_X0_noted se_X0_noted rfl (by decide) (atG hg) (fun p hp => T_X0_noted g hg v3 0 I L p hp) (by decide) rfl (Nat.le_of_ble_eq_true rfl) dX0_rowsOf_16 rfl (fun r_2 => ?_)
      refine zo_iload_n hC dX0_rowsOf_19 rfl 1 rfl ?_
      refine zo_icmp_ne (tgt := 27) hC dX0_rowsOf_20 (by decide) (fun c_3 => ?_) (fun c_3 => ?_)
      · refine zo_iconst (v := 0) hC (by decide) dX0_rowsOf_27 ?_
        refine zo_sub [0, 1, 3] (lv' := [(0, .ref g), (1, .int v1), (3, .int v3)]) rfl ?_
        exact Zf_X0_rowsOf_28 hC g hg I L v1 (fun v2 v3 => f_X0_rowsOf_4 g I v1 k36 n v2 v3) k36 (fun v2 v3 => ih v2 v3) hk36 v3 0 v2
      · refine zo_iconst (v := 1) hC (by decide) dX0_rowsOf_23 ?_
        refine zo_goto (tgt := 28) hC dX0_rowsOf_24 (by decide) ?_
        refine zo_sub [0, 1, 3] (lv' := [(0, .ref g), (1, .int v1), (3, .int v3)]) rfl ?_
        exact Zf_X0_rowsOf_28 hC g hg I L v1 (fun v2 v3 => f_X0_rowsOf_4 g I v1 k36 n v2 v3) k36 (fun v2 v3 => ih v2 v3) hk36 v3 1 v2

def f_X0_rowsOf (g : Nat) (v1 : Int32) (I : e_I) : Option (Int32) :=
  f_X0_rowsOf_4 g I v1 (fun (v2_1 : Int32) =>
    some v2_1) e_FU 0 0
set_option maxRecDepth 100000 in
set_option maxHeartbeats 4000000 in
theorem Zf_X0_rowsOf {X : e_X} (hC : e_C X cX0_rowsOf RX0 4 (some .int) 2 gN) (g : Nat) (hg : e_isG g) (v1 : Int32) (I : e_I) (L : e_L) : Zo X (ph_i I L) (f_X0_rowsOf g v1 I) 0 [(0, .ref g), (1, .int v1)] [] I L := by
  unfold f_X0_rowsOf
  refine zo_iconst (v := 0) hC (by decide) dX0_rowsOf_0 ?_
  refine zo_istore_n (lv' := [(2, .int 0), (0, .ref g), (1, .int v1)]) hC dX0_rowsOf_1 rfl (by decide) rfl ?_
  refine zo_iconst (v := 0) hC (by decide) dX0_rowsOf_2 ?_
  refine zo_istore_n (lv' := [(3, .int 0), (2, .int 0), (0, .ref g), (1, .int v1)]) hC dX0_rowsOf_3 rfl (by decide) rfl ?_
  refine zo_sub [2, 3, 1, 0] (lv' := [(0, .ref g), (1, .int v1), (2, .int 0), (3, .int 0)]) rfl ?_
  refine Zf_X0_rowsOf_4 hC g hg I L v1 _ (fun v2_1 => ?_) e_FU 0 0
  · refine zo_iload_n hC dX0_rowsOf_36 rfl 0 rfl ?_
    exact zo_iret hC rfl dX0_rowsOf_37

theorem T_X0_rowsOf (g : Nat) (hg : e_isG g) (v1 : Int32) (I : e_I) (L : e_L) (p : Int32) (hp : f_X0_rowsOf g v1 I = some p) : Mt yX0_rowsOf cX0_rowsOf 4 (some .int) 2 gN [.ref g, .int v1] I L ((ph_i I L) p) := zo_enter hp (by decide) (Nat.le_of_ble_eq_true rfl) (fun X hC => Zf_X0_rowsOf hC g hg v1 I L)
def f_X0_runsOf_33 (g : Nat) (I : e_I) (v1 : Int32) (k4 : Int32 → Int32 → Option (Int32)) (k41 : Int32 → Option (Int32)) (v3 : Int32) (s0 : Int32) (s1 : Int32) : Option (Int32) :=
  e_let (s1 + s0) (fun (x_1 : Int32) =>
  e_let (v3 + 1) (fun (x_2 : Int32) =>
  k4 x_1 x_2))
set_option maxRecDepth 100000 in
set_option maxHeartbeats 4000000 in
theorem Zf_X0_runsOf_33 {X : e_X} (hC : e_C X cX0_runsOf RX0 4 (some .int) 2 gN) (g : Nat) (hg : e_isG g) (I : e_I) (L : e_L) (v1 : Int32) (k4 : Int32 → Int32 → Option (Int32)) (k41 : Int32 → Option (Int32)) (hk4 : ∀ (v2 : Int32) (v3 : Int32), Zo X (ph_i I L) (k4 v2 v3) 4 [(0, .ref g), (1, .int v1), (2, .int v2), (3, .int v3)] [] I L) (hk41 : ∀ (v2 : Int32), Zo X (ph_i I L) (k41 v2) 41 [(2, .int v2)] [] I L) (v3 : Int32) (s0 : Int32) (s1 : Int32) : Zo X (ph_i I L) (f_X0_runsOf_33 g I v1 k4 k41 v3 s0 s1) 33 [(0, .ref g), (1, .int v1), (3, .int v3)] [.int s0, .int s1] I L := by
  unfold f_X0_runsOf_33
  refine zo_iadd hC dX0_runsOf_33 ?_
  refine zo_topi (fun x_1 => ?_)
  refine zo_istore_n (lv' := [(2, .int x_1), (0, .ref g), (1, .int v1), (3, .int v3)]) hC dX0_runsOf_34 rfl (by decide) rfl ?_
  refine zo_iinc hC (x := v3) (fun x_2 => [(3, .int x_2), (2, .int x_1), (0, .ref g), (1, .int v1)]) dX0_runsOf_35 3 rfl (by rfl) (by decide) (fun _ => rfl) (fun x_2 => ?_)
  refine zo_goto (tgt := 4) hC dX0_runsOf_38 (by decide) ?_
  refine zo_sub [2, 3, 1, 0] (lv' := [(0, .ref g), (1, .int v1), (2, .int x_1), (3, .int x_2)]) rfl ?_
  exact hk4 x_1 x_2

def f_X0_runsOf_4 (g : Nat) (I : e_I) (v1 : Int32) (k41 : Int32 → Option (Int32)) : Nat → Int32 → Int32 → Option (Int32)
  | 0, _, _ => none
  | n + 1, v2, v3 =>
    if v3 ≥ (I g 6) then (
      k41 v2)
    else (
      e_b1 (f_X0_noted g v3 0 I) (fun (r_2 : Int32) =>
      if r_2 ≠ v1 then (
        f_X0_runsOf_33 g I v1 (fun v2 v3 => f_X0_runsOf_4 g I v1 k41 n v2 v3) k41 v3 0 v2)
      else (
        e_b1 (f_X0_noted g v3 2 I) (fun (r_4 : Int32) =>
        f_X0_runsOf_33 g I v1 (fun v2 v3 => f_X0_runsOf_4 g I v1 k41 n v2 v3) k41 v3 r_4 v2))))
set_option maxRecDepth 100000 in
set_option maxHeartbeats 4000000 in
theorem Zf_X0_runsOf_4 {X : e_X} (hC : e_C X cX0_runsOf RX0 4 (some .int) 2 gN) (g : Nat) (hg : e_isG g) (I : e_I) (L : e_L) (v1 : Int32) (k41 : Int32 → Option (Int32)) (hk41 : ∀ (v2 : Int32), Zo X (ph_i I L) (k41 v2) 41 [(2, .int v2)] [] I L) : ∀ (n : Nat) (v2 : Int32) (v3 : Int32), Zo X (ph_i I L) (f_X0_runsOf_4 g I v1 k41 n v2 v3) 4 [(0, .ref g), (1, .int v1), (2, .int v2), (3, .int v3)] [] I L := by
  intro n
  induction n with
  | zero => intro v2 v3 p hp; cases hp
  | succ n ih =>
    intro v2 v3
    unfold f_X0_runsOf_4
    refine zo_iload_n hC dX0_runsOf_4 rfl 3 rfl ?_
    refine zo_aload_n hC dX0_runsOf_5 rfl 0 rfl ?_
    refine zo_getI hC fk0_57 (atG hg) dX0_runsOf_6 ?_
    refine zo_icmp_ge (tgt := 41) hC dX0_runsOf_9 (by decide) (fun c_1 => ?_) (fun c_1 => ?_)
    · refine zo_sub [2] (lv' := [(2, .int v2)]) rfl ?_
      exact hk41 v2
    · refine zo_iload_n hC dX0_runsOf_12 rfl 2 rfl ?_
      refine zo_aload_n hC dX0_runsOf_13 rfl 0 rfl ?_
      refine zo_iload_n hC dX0_runsOf_14 rfl 3 rfl ?_
      refine zo_iconst (v := 0) hC (by decide) dX0_runsOf_15 ?_
      refine zo_callV_i hC (ci := 0) [.int v3, .int 0] [.int v2] me_X0_noted mlX0_112 im_X0_noted se_X0_noted rfl (by decide) (atG hg) (fun p hp => T_X0_noted g hg v3 0 I L p hp) (by decide) rfl (Nat.le_of_ble_eq_true rfl) dX0_runsOf_16 rfl (fun r_2 => ?_)
      refine zo_iload_n hC dX0_runsOf_19 rfl 1 rfl ?_
      refine zo_icmp_ne (tgt := 32) hC dX0_runsOf_20 (by decide) (fun c_3 => ?_) (fun c_3 => ?_)
      · refine zo_iconst (v := 0) hC (by decide) dX0_runsOf_32 ?_
        refine zo_sub [0, 1, 3] (lv' := [(0, .ref g), (1, .int v1), (3, .int v3)]) rfl ?_
        exact Zf_X0_runsOf_33 hC g hg I L v1 (fun v2 v3 => f_X0_runsOf_4 g I v1 k41 n v2 v3) k41 (fun v2 v3 => ih v2 v3) hk41 v3 0 v2
      · refine zo_aload_n hC dX0_runsOf_23 rfl 0 rfl ?_
        refine zo_iload_n hC dX0_runsOf_24 rfl 3 rfl ?_
        refine zo_iconst (v := 2) hC (by decide) dX0_runsOf_25 ?_
        refine zo_callV_i hC (ci := 0) [.int v3, .int 2] [.int v2] me_X0_noted mlX0_112 im_X0_noted se_X0_noted rfl (by decide) (atG hg) (fun p hp => T_X0_noted g hg v3 2 I L p hp) (by decide) rfl (Nat.le_of_ble_eq_true rfl) dX0_runsOf_26 rfl (fun r_4 => ?_)
        refine zo_goto (tgt := 33) hC dX0_runsOf_29 (by decide) ?_
        refine zo_sub [0, 1, 3] (lv' := [(0, .ref g), (1, .int v1), (3, .int v3)]) rfl ?_
        exact Zf_X0_runsOf_33 hC g hg I L v1 (fun v2 v3 => f_X0_runsOf_4 g I v1 k41 n v2 v3) k41 (fun v2 v3 => ih v2 v3) hk41 v3 r_4 v2

def f_X0_runsOf (g : Nat) (v1 : Int32) (I : e_I) : Option (Int32) :=
  f_X0_runsOf_4 g I v1 (fun (v2_1 : Int32) =>
    some v2_1) e_FU 0 0
set_option maxRecDepth 100000 in
set_option maxHeartbeats 4000000 in
theorem Zf_X0_runsOf {X : e_X} (hC : e_C X cX0_runsOf RX0 4 (some .int) 2 gN) (g : Nat) (hg : e_isG g) (v1 : Int32) (I : e_I) (L : e_L) : Zo X (ph_i I L) (f_X0_runsOf g v1 I) 0 [(0, .ref g), (1, .int v1)] [] I L := by
  unfold f_X0_runsOf
  refine zo_iconst (v := 0) hC (by decide) dX0_runsOf_0 ?_
  refine zo_istore_n (lv' := [(2, .int 0), (0, .ref g), (1, .int v1)]) hC dX0_runsOf_1 rfl (by decide) rfl ?_
  refine zo_iconst (v := 0) hC (by decide) dX0_runsOf_2 ?_
  refine zo_istore_n (lv' := [(3, .int 0), (2, .int 0), (0, .ref g), (1, .int v1)]) hC dX0_runsOf_3 rfl (by decide) rfl ?_
  refine zo_sub [2, 3, 1, 0] (lv' := [(0, .ref g), (1, .int v1), (2, .int 0), (3, .int 0)]) rfl ?_
  refine Zf_X0_runsOf_4 hC g hg I L v1 _ (fun v2_1 => ?_) e_FU 0 0
  · refine zo_iload_n hC dX0_runsOf_41 rfl 0 rfl ?_
    exact zo_iret hC rfl dX0_runsOf_42

theorem T_X0_runsOf (g : Nat) (hg : e_isG g) (v1 : Int32) (I : e_I) (L : e_L) (p : Int32) (hp : f_X0_runsOf g v1 I = some p) : Mt yX0_runsOf cX0_runsOf 4 (some .int) 2 gN [.ref g, .int v1] I L ((ph_i I L) p) := zo_enter hp (by decide) (Nat.le_of_ble_eq_true rfl) (fun X hC => Zf_X0_runsOf hC g hg v1 I L)
def f_X7_batter_27 (v1 : Int32) (v2 : Int32) (s0 : Int32) (I : e_I) : Option (Int32 × e_I) :=
  e_b2 (f_X7_refused s0 I) (fun (r_1 : Int32) (I_2 : e_I) =>
  if r_1 = 0 then (
    if v2 = 6 then (
      e_b1 (f_X0_placeOf 23 v1 I_2) (fun (r_5 : Int32) =>
      some (r_5, I_2)))
    else (
    if v2 = 7 then (
      e_b1 (f_X0_rowsOf 23 v1 I_2) (fun (r_7 : Int32) =>
      some (r_7, I_2)))
    else (
    if v2 = 8 then (
      e_b1 (f_X0_runsOf 23 v1 I_2) (fun (r_9 : Int32) =>
      some (r_9, I_2)))
    else (
    e_b1 (f_X0_chanceOf 23 v1 v2 I_2) (fun (r_10 : Int32) =>
    some (r_10, I_2))))))
  else (
    some ((-1), I_2)))
set_option maxRecDepth 100000 in
set_option maxHeartbeats 4000000 in
theorem Zf_X7_batter_27 {X : e_X} (hC : e_C X cX7_batter RX7 3 (some .int) 3 gN) (L : e_L) (v1 : Int32) (v2 : Int32) (s0 : Int32) (I : e_I) : Zo X (ph_iI L) (f_X7_batter_27 v1 v2 s0 I) 27 [(0, .ref 0), (1, .int v1), (2, .int v2)] [.int s0, .ref 0] I L := by
  unfold f_X7_batter_27
  refine zo_callV_iI hC (ci := 7) [.int s0] [] me_X7_refused mlX7_70 im_X7_refused se_X7_refused rfl (by decide) at_0 (fun p hp => T_X7_refused s0 I L p hp) (by decide) rfl (Nat.le_of_ble_eq_true rfl) dX7_batter_27 rfl (fun r_1 I_2 => ?_)
  refine zo_if_eq (tgt := 35) hC dX7_batter_30 (by decide) (fun c_3 => ?_) (fun c_3 => ?_)
  · refine zo_iload_n hC dX7_batter_35 rfl 2 rfl ?_
    refine zo_ite (fun c_4 => ?_) (fun c_4 => ?_)
    · refine zo_tsw_in (tgt := 64) hC dX7_batter_36 (by rw [c_4]; decide) (by rw [c_4]; decide) (by rw [c_4]; rfl) (by decide) ?_
      refine zo_aload_n hC dX7_batter_64 rfl 0 rfl ?_
      refine zo_getR hC (r := 23) fk7_23 (by decide) gr_0_2 at_0 dX7_batter_65 ?_
      refine zo_iload_n hC dX7_batter_68 rfl 1 rfl ?_
      refine zo_callV_i hC (ci := 0) [.int v1] [] me_X0_placeOf mlX7_145 im_X0_placeOf se_X0_placeOf rfl (by decide) at_23 (fun p hp => T_X0_placeOf 23 isG_23 v1 I_2 L p hp) (by decide) rfl (Nat.le_of_ble_eq_true rfl) dX7_batter_69 rfl (fun r_5 => ?_)
      exact zo_iret hC rfl dX7_batter_72
    refine zo_ite (fun c_6 => ?_) (fun c_6 => ?_)
    · refine zo_tsw_in (tgt := 73) hC dX7_batter_36 (by rw [c_6]; decide) (by rw [c_6]; decide) (by rw [c_6]; rfl) (by decide) ?_
      refine zo_aload_n hC dX7_batter_73 rfl 0 rfl ?_
      refine zo_getR hC (r := 23) fk7_23 (by decide) gr_0_2 at_0 dX7_batter_74 ?_
      refine zo_iload_n hC dX7_batter_77 rfl 1 rfl ?_
      refine zo_callV_i hC (ci := 0) [.int v1] [] me_X0_rowsOf mlX7_148 im_X0_rowsOf se_X0_rowsOf rfl (by decide) at_23 (fun p hp => T_X0_rowsOf 23 isG_23 v1 I_2 L p hp) (by decide) rfl (Nat.le_of_ble_eq_true rfl) dX7_batter_78 rfl (fun r_7 => ?_)
      exact zo_iret hC rfl dX7_batter_81
    refine zo_ite (fun c_8 => ?_) (fun c_8 => ?_)
    · refine zo_tsw_in (tgt := 82) hC dX7_batter_36 (by rw [c_8]; decide) (by rw [c_8]; decide) (by rw [c_8]; rfl) (by decide) ?_
      refine zo_aload_n hC dX7_batter_82 rfl 0 rfl ?_
      refine zo_getR hC (r := 23) fk7_23 (by decide) gr_0_2 at_0 dX7_batter_83 ?_
      refine zo_iload_n hC dX7_batter_86 rfl 1 rfl ?_
      refine zo_callV_i hC (ci := 0) [.int v1] [] me_X0_runsOf mlX7_151 im_X0_runsOf se_X0_runsOf rfl (by decide) at_23 (fun p hp => T_X0_runsOf 23 isG_23 v1 I_2 L p hp) (by decide) rfl (Nat.le_of_ble_eq_true rfl) dX7_batter_87 rfl (fun r_9 => ?_)
      exact zo_iret hC rfl dX7_batter_90
    refine zo_tsw_out (tgt := 91) hC dX7_batter_36 (by have q0 := e_sw (n := 6) (by decide) (by decide) c_4; have q1 := e_sw (n := 7) (by decide) (by decide) c_6; have q2 := e_sw (n := 8) (by decide) (by decide) c_8; omega) (by decide) ?_
    refine zo_aload_n hC dX7_batter_91 rfl 0 rfl ?_
    refine zo_getR hC (r := 23) fk7_23 (by decide) gr_0_2 at_0 dX7_batter_92 ?_
    refine zo_iload_n hC dX7_batter_95 rfl 1 rfl ?_
    refine zo_iload_n hC dX7_batter_96 rfl 2 rfl ?_
    refine zo_callV_i hC (ci := 0) [.int v1, .int v2] [] me_X0_chanceOf mlX7_154 im_X0_chanceOf se_X0_chanceOf rfl (by decide) at_23 (fun p hp => T_X0_chanceOf 23 isG_23 v1 v2 I_2 L p hp) (by decide) rfl (Nat.le_of_ble_eq_true rfl) dX7_batter_97 rfl (fun r_10 => ?_)
    exact zo_iret hC rfl dX7_batter_100
  · refine zo_iconst (v := (-1)) hC (by decide) dX7_batter_33 ?_
    exact zo_iret hC rfl dX7_batter_34

def f_X7_batter_26 (v1 : Int32) (v2 : Int32) (I : e_I) : Option (Int32 × e_I) :=
  f_X7_batter_27 v1 v2 1 I
set_option maxRecDepth 100000 in
set_option maxHeartbeats 4000000 in
theorem Zf_X7_batter_26 {X : e_X} (hC : e_C X cX7_batter RX7 3 (some .int) 3 gN) (L : e_L) (v1 : Int32) (v2 : Int32) (I : e_I) : Zo X (ph_iI L) (f_X7_batter_26 v1 v2 I) 26 [(0, .ref 0), (1, .int v1), (2, .int v2)] [.ref 0] I L := by
  unfold f_X7_batter_26
  refine zo_iconst (v := 1) hC (by decide) dX7_batter_26 ?_
  exact Zf_X7_batter_27 hC L v1 v2 1 I

def f_X7_batter (v1 : Int32) (v2 : Int32) (I : e_I) : Option (Int32 × e_I) :=
  e_b1 (f_X0_hasBatter 23 v1 I) (fun (r_1 : Int32) =>
  if r_1 = 0 then (
    f_X7_batter_26 v1 v2 I)
  else (
    e_b1 (f_X7_within v2 0 8) (fun (r_3 : Int32) =>
    if r_3 = 0 then (
      f_X7_batter_26 v1 v2 I)
    else (
      f_X7_batter_27 v1 v2 0 I))))
set_option maxRecDepth 100000 in
set_option maxHeartbeats 4000000 in
theorem Zf_X7_batter {X : e_X} (hC : e_C X cX7_batter RX7 3 (some .int) 3 gN) (v1 : Int32) (v2 : Int32) (I : e_I) (L : e_L) : Zo X (ph_iI L) (f_X7_batter v1 v2 I) 0 [(0, .ref 0), (1, .int v1), (2, .int v2)] [] I L := by
  unfold f_X7_batter
  refine zo_aload_n hC dX7_batter_0 rfl 0 rfl ?_
  refine zo_aload_n hC dX7_batter_1 rfl 0 rfl ?_
  refine zo_getR hC (r := 23) fk7_23 (by decide) gr_0_2 at_0 dX7_batter_2 ?_
  refine zo_iload_n hC dX7_batter_5 rfl 1 rfl ?_
  refine zo_callV_i hC (ci := 0) [.int v1] [.ref 0] me_X0_hasBatter mlX7_142 im_X0_hasBatter se_X0_hasBatter rfl (by decide) at_23 (fun p hp => T_X0_hasBatter 23 isG_23 v1 I L p hp) (by decide) rfl (Nat.le_of_ble_eq_true rfl) dX7_batter_6 rfl (fun r_1 => ?_)
  refine zo_if_eq (tgt := 26) hC dX7_batter_9 (by decide) (fun c_2 => ?_) (fun c_2 => ?_)
  · exact Zf_X7_batter_26 hC L v1 v2 I
  · refine zo_iload_n hC dX7_batter_12 rfl 2 rfl ?_
    refine zo_iconst (v := 0) hC (by decide) dX7_batter_13 ?_
    refine zo_bipush (v := 8) hC (by decide) dX7_batter_14 ?_
    refine zo_callS_i hC [.int v2, .int 0, .int 8] [.ref 0] me_X7_within mlX7_66 sm_X7_within (fun p hp => T_X7_within v2 0 8 I L p hp) (by decide) rfl (Nat.le_of_ble_eq_true rfl) dX7_batter_16 rfl (fun r_3 => ?_)
    refine zo_if_eq (tgt := 26) hC dX7_batter_19 (by decide) (fun c_4 => ?_) (fun c_4 => ?_)
    · exact Zf_X7_batter_26 hC L v1 v2 I
    · refine zo_iconst (v := 0) hC (by decide) dX7_batter_22 ?_
      refine zo_goto (tgt := 27) hC dX7_batter_23 (by decide) ?_
      exact Zf_X7_batter_27 hC L v1 v2 0 I

theorem T_X7_batter (v1 : Int32) (v2 : Int32) (I : e_I) (L : e_L) (p : Int32 × e_I) (hp : f_X7_batter v1 v2 I = some p) : Mt yX7_batter cX7_batter 3 (some .int) 3 gN [.ref 0, .int v1, .int v2] I L ((ph_iI L) p) := zo_enter hp (by decide) (Nat.le_of_ble_eq_true rfl) (fun X hC => Zf_X7_batter hC v1 v2 I L)
def f_X0_batterAt_20 (g : Nat) (I : e_I) (s0 : Int32) : Option (Int32) :=
  some s0
set_option maxRecDepth 100000 in
set_option maxHeartbeats 4000000 in
theorem Zf_X0_batterAt_20 {X : e_X} (hC : e_C X cX0_batterAt RX0 2 (some .int) 0 gN) (g : Nat) (hg : e_isG g) (I : e_I) (L : e_L) (s0 : Int32) : Zo X (ph_i I L) (f_X0_batterAt_20 g I s0) 20 [] [.int s0] I L := by
  unfold f_X0_batterAt_20
  exact zo_iret hC rfl dX0_batterAt_20

def f_X0_batterAt_19 (g : Nat) (I : e_I) : Option (Int32) :=
  f_X0_batterAt_20 g I (-1)
set_option maxRecDepth 100000 in
set_option maxHeartbeats 4000000 in
theorem Zf_X0_batterAt_19 {X : e_X} (hC : e_C X cX0_batterAt RX0 2 (some .int) 0 gN) (g : Nat) (hg : e_isG g) (I : e_I) (L : e_L) : Zo X (ph_i I L) (f_X0_batterAt_19 g I) 19 [] [] I L := by
  unfold f_X0_batterAt_19
  refine zo_iconst (v := (-1)) hC (by decide) dX0_batterAt_19 ?_
  exact Zf_X0_batterAt_20 hC g hg I L (-1)

def f_X0_batterAt (g : Nat) (v1 : Int32) (I : e_I) : Option (Int32) :=
  if v1 < 0 then (
    f_X0_batterAt_19 g I )
  else (
    if v1 ≥ 9 then (
      f_X0_batterAt_19 g I )
    else (
      e_as (e_ix v1 9 = true) (
      f_X0_batterAt_20 g I (I (g + 3) v1.toNatClampNeg))))
set_option maxRecDepth 100000 in
set_option maxHeartbeats 4000000 in
theorem Zf_X0_batterAt {X : e_X} (hC : e_C X cX0_batterAt RX0 2 (some .int) 0 gN) (g : Nat) (hg : e_isG g) (v1 : Int32) (I : e_I) (L : e_L) : Zo X (ph_i I L) (f_X0_batterAt g v1 I) 0 [(0, .ref g), (1, .int v1)] [] I L := by
  unfold f_X0_batterAt
  refine zo_iload_n hC dX0_batterAt_0 rfl 1 rfl ?_
  refine zo_if_lt (tgt := 19) hC dX0_batterAt_1 (by decide) (fun c_1 => ?_) (fun c_1 => ?_)
  · refine zo_sub [] (lv' := []) rfl ?_
    exact Zf_X0_batterAt_19 hC g hg I L 
  · refine zo_iload_n hC dX0_batterAt_4 rfl 1 rfl ?_
    refine zo_bipush (v := 9) hC (by decide) dX0_batterAt_5 ?_
    refine zo_icmp_ge (tgt := 19) hC dX0_batterAt_7 (by decide) (fun c_2 => ?_) (fun c_2 => ?_)
    · refine zo_sub [] (lv' := []) rfl ?_
      exact Zf_X0_batterAt_19 hC g hg I L 
    · refine zo_aload_n hC dX0_batterAt_10 rfl 0 rfl ?_
      refine zo_getR hC (r := (g + 3)) fk0_18 (by decide) (grG10 hg) (atG hg) dX0_batterAt_11 ?_
      refine zo_iload_n hC dX0_batterAt_14 rfl 1 rfl ?_
      refine zo_as (fun h_3 => ?_)
      refine zo_iald hC (arG3 hg) (e_ix_vp h_3) dX0_batterAt_15 ?_
      refine zo_goto (tgt := 20) hC dX0_batterAt_16 (by decide) ?_
      refine zo_sub [] (lv' := []) rfl ?_
      exact Zf_X0_batterAt_20 hC g hg I L (I (g + 3) v1.toNatClampNeg)

theorem T_X0_batterAt (g : Nat) (hg : e_isG g) (v1 : Int32) (I : e_I) (L : e_L) (p : Int32) (hp : f_X0_batterAt g v1 I = some p) : Mt yX0_batterAt cX0_batterAt 2 (some .int) 0 gN [.ref g, .int v1] I L ((ph_i I L) p) := zo_enter hp (by decide) (Nat.le_of_ble_eq_true rfl) (fun X hC => Zf_X0_batterAt hC g hg v1 I L)
def f_X0_hasPlace_17 (g : Nat) (I : e_I) (s0 : Int32) : Option (Int32) :=
  e_as (s0 = 0 ∨ s0 = 1) (
  some s0)
set_option maxRecDepth 100000 in
set_option maxHeartbeats 4000000 in
theorem Zf_X0_hasPlace_17 {X : e_X} (hC : e_C X cX0_hasPlace RX0 2 (some .boolean) 0 gN) (g : Nat) (hg : e_isG g) (I : e_I) (L : e_L) (s0 : Int32) : Zo X (ph_i I L) (f_X0_hasPlace_17 g I s0) 17 [] [.int s0] I L := by
  unfold f_X0_hasPlace_17
  refine zo_as (fun h_1 => ?_)
  exact zo_zret hC h_1 rfl dX0_hasPlace_17

def f_X0_hasPlace_16 (g : Nat) (I : e_I) : Option (Int32) :=
  f_X0_hasPlace_17 g I 0
set_option maxRecDepth 100000 in
set_option maxHeartbeats 4000000 in
theorem Zf_X0_hasPlace_16 {X : e_X} (hC : e_C X cX0_hasPlace RX0 2 (some .boolean) 0 gN) (g : Nat) (hg : e_isG g) (I : e_I) (L : e_L) : Zo X (ph_i I L) (f_X0_hasPlace_16 g I) 16 [] [] I L := by
  unfold f_X0_hasPlace_16
  refine zo_iconst (v := 0) hC (by decide) dX0_hasPlace_16 ?_
  exact Zf_X0_hasPlace_17 hC g hg I L 0

def f_X0_hasPlace (g : Nat) (v1 : Int32) (I : e_I) : Option (Int32) :=
  if v1 < 0 then (
    f_X0_hasPlace_16 g I )
  else (
    if v1 ≥ (I g 0) then (
      f_X0_hasPlace_16 g I )
    else (
      f_X0_hasPlace_17 g I 1))
set_option maxRecDepth 100000 in
set_option maxHeartbeats 4000000 in
theorem Zf_X0_hasPlace {X : e_X} (hC : e_C X cX0_hasPlace RX0 2 (some .boolean) 0 gN) (g : Nat) (hg : e_isG g) (v1 : Int32) (I : e_I) (L : e_L) : Zo X (ph_i I L) (f_X0_hasPlace g v1 I) 0 [(0, .ref g), (1, .int v1)] [] I L := by
  unfold f_X0_hasPlace
  refine zo_iload_n hC dX0_hasPlace_0 rfl 1 rfl ?_
  refine zo_if_lt (tgt := 16) hC dX0_hasPlace_1 (by decide) (fun c_1 => ?_) (fun c_1 => ?_)
  · refine zo_sub [] (lv' := []) rfl ?_
    exact Zf_X0_hasPlace_16 hC g hg I L 
  · refine zo_iload_n hC dX0_hasPlace_4 rfl 1 rfl ?_
    refine zo_aload_n hC dX0_hasPlace_5 rfl 0 rfl ?_
    refine zo_getI hC fk0_30 (atG hg) dX0_hasPlace_6 ?_
    refine zo_icmp_ge (tgt := 16) hC dX0_hasPlace_9 (by decide) (fun c_2 => ?_) (fun c_2 => ?_)
    · refine zo_sub [] (lv' := []) rfl ?_
      exact Zf_X0_hasPlace_16 hC g hg I L 
    · refine zo_iconst (v := 1) hC (by decide) dX0_hasPlace_12 ?_
      refine zo_goto (tgt := 17) hC dX0_hasPlace_13 (by decide) ?_
      refine zo_sub [] (lv' := []) rfl ?_
      exact Zf_X0_hasPlace_17 hC g hg I L 1

theorem T_X0_hasPlace (g : Nat) (hg : e_isG g) (v1 : Int32) (I : e_I) (L : e_L) (p : Int32) (hp : f_X0_hasPlace g v1 I = some p) : Mt yX0_hasPlace cX0_hasPlace 2 (some .boolean) 0 gN [.ref g, .int v1] I L ((ph_i I L) p) := zo_enter hp (by decide) (Nat.le_of_ble_eq_true rfl) (fun X hC => Zf_X0_hasPlace hC g hg v1 I L)
def f_X7_place_35 (s0 : Int32) (I : e_I) : Option (Int32 × e_I) :=
  some (s0, I)
set_option maxRecDepth 100000 in
set_option maxHeartbeats 4000000 in
theorem Zf_X7_place_35 {X : e_X} (hC : e_C X cX7_place RX7 2 (some .int) 1 gN) (L : e_L) (s0 : Int32) (I : e_I) : Zo X (ph_iI L) (f_X7_place_35 s0 I) 35 [] [.int s0] I L := by
  unfold f_X7_place_35
  exact zo_iret hC rfl dX7_place_35

def f_X7_place_17 (v1 : Int32) (s0 : Int32) (I : e_I) : Option (Int32 × e_I) :=
  e_b2 (f_X7_refused s0 I) (fun (r_1 : Int32) (I_2 : e_I) =>
  if r_1 = 0 then (
    e_b1 (f_X0_batterAt 23 v1 I_2) (fun (r_4 : Int32) =>
    f_X7_place_35 r_4 I_2))
  else (
    f_X7_place_35 (-1) I_2))
set_option maxRecDepth 100000 in
set_option maxHeartbeats 4000000 in
theorem Zf_X7_place_17 {X : e_X} (hC : e_C X cX7_place RX7 2 (some .int) 1 gN) (L : e_L) (v1 : Int32) (s0 : Int32) (I : e_I) : Zo X (ph_iI L) (f_X7_place_17 v1 s0 I) 17 [(0, .ref 0), (1, .int v1)] [.int s0, .ref 0] I L := by
  unfold f_X7_place_17
  refine zo_callV_iI hC (ci := 7) [.int s0] [] me_X7_refused mlX7_70 im_X7_refused se_X7_refused rfl (by decide) at_0 (fun p hp => T_X7_refused s0 I L p hp) (by decide) rfl (Nat.le_of_ble_eq_true rfl) dX7_place_17 rfl (fun r_1 I_2 => ?_)
  refine zo_if_eq (tgt := 27) hC dX7_place_20 (by decide) (fun c_3 => ?_) (fun c_3 => ?_)
  · refine zo_aload_n hC dX7_place_27 rfl 0 rfl ?_
    refine zo_getR hC (r := 23) fk7_23 (by decide) gr_0_2 at_0 dX7_place_28 ?_
    refine zo_iload_n hC dX7_place_31 rfl 1 rfl ?_
    refine zo_callV_i hC (ci := 0) [.int v1] [] me_X0_batterAt mlX7_161 im_X0_batterAt se_X0_batterAt rfl (by decide) at_23 (fun p hp => T_X0_batterAt 23 isG_23 v1 I_2 L p hp) (by decide) rfl (Nat.le_of_ble_eq_true rfl) dX7_place_32 rfl (fun r_4 => ?_)
    refine zo_sub [] (lv' := []) rfl ?_
    exact Zf_X7_place_35 hC L r_4 I_2
  · refine zo_iconst (v := (-1)) hC (by decide) dX7_place_23 ?_
    refine zo_goto (tgt := 35) hC dX7_place_24 (by decide) ?_
    refine zo_sub [] (lv' := []) rfl ?_
    exact Zf_X7_place_35 hC L (-1) I_2

def f_X7_place (v1 : Int32) (I : e_I) : Option (Int32 × e_I) :=
  e_b1 (f_X0_hasPlace 23 v1 I) (fun (r_1 : Int32) =>
  if r_1 = 0 then (
    f_X7_place_17 v1 1 I)
  else (
    f_X7_place_17 v1 0 I))
set_option maxRecDepth 100000 in
set_option maxHeartbeats 4000000 in
theorem Zf_X7_place {X : e_X} (hC : e_C X cX7_place RX7 2 (some .int) 1 gN) (v1 : Int32) (I : e_I) (L : e_L) : Zo X (ph_iI L) (f_X7_place v1 I) 0 [(0, .ref 0), (1, .int v1)] [] I L := by
  unfold f_X7_place
  refine zo_aload_n hC dX7_place_0 rfl 0 rfl ?_
  refine zo_aload_n hC dX7_place_1 rfl 0 rfl ?_
  refine zo_getR hC (r := 23) fk7_23 (by decide) gr_0_2 at_0 dX7_place_2 ?_
  refine zo_iload_n hC dX7_place_5 rfl 1 rfl ?_
  refine zo_callV_i hC (ci := 0) [.int v1] [.ref 0] me_X0_hasPlace mlX7_158 im_X0_hasPlace se_X0_hasPlace rfl (by decide) at_23 (fun p hp => T_X0_hasPlace 23 isG_23 v1 I L p hp) (by decide) rfl (Nat.le_of_ble_eq_true rfl) dX7_place_6 rfl (fun r_1 => ?_)
  refine zo_if_eq (tgt := 16) hC dX7_place_9 (by decide) (fun c_2 => ?_) (fun c_2 => ?_)
  · refine zo_iconst (v := 1) hC (by decide) dX7_place_16 ?_
    exact Zf_X7_place_17 hC L v1 1 I
  · refine zo_iconst (v := 0) hC (by decide) dX7_place_12 ?_
    refine zo_goto (tgt := 17) hC dX7_place_13 (by decide) ?_
    exact Zf_X7_place_17 hC L v1 0 I

theorem T_X7_place (v1 : Int32) (I : e_I) (L : e_L) (p : Int32 × e_I) (hp : f_X7_place v1 I = some p) : Mt yX7_place cX7_place 2 (some .int) 1 gN [.ref 0, .int v1] I L ((ph_iI L) p) := zo_enter hp (by decide) (Nat.le_of_ble_eq_true rfl) (fun X hC => Zf_X7_place hC v1 I L)
def f_X0_batterRound_21 (g : Nat) (I : e_I) (s0 : Int32) : Option (Int32) :=
  some s0
set_option maxRecDepth 100000 in
set_option maxHeartbeats 4000000 in
theorem Zf_X0_batterRound_21 {X : e_X} (hC : e_C X cX0_batterRound RX0 2 (some .int) 1 gN) (g : Nat) (hg : e_isG g) (I : e_I) (L : e_L) (s0 : Int32) : Zo X (ph_i I L) (f_X0_batterRound_21 g I s0) 21 [] [.int s0] I L := by
  unfold f_X0_batterRound_21
  exact zo_iret hC rfl dX0_batterRound_21

def f_X0_batterRound (g : Nat) (v1 : Int32) (I : e_I) : Option (Int32) :=
  if (I g 0) ≤ 0 then (
    f_X0_batterRound_21 g I (-1))
  else (
    e_as (¬ (I g 0) = 0) (
    e_b1 (f_X0_batterAt g (e_rm v1 (I g 0)) I) (fun (r_3 : Int32) =>
    f_X0_batterRound_21 g I r_3)))
set_option maxRecDepth 100000 in
set_option maxHeartbeats 4000000 in
theorem Zf_X0_batterRound {X : e_X} (hC : e_C X cX0_batterRound RX0 2 (some .int) 1 gN) (g : Nat) (hg : e_isG g) (v1 : Int32) (I : e_I) (L : e_L) : Zo X (ph_i I L) (f_X0_batterRound g v1 I) 0 [(0, .ref g), (1, .int v1)] [] I L := by
  unfold f_X0_batterRound
  refine zo_aload_n hC dX0_batterRound_0 rfl 0 rfl ?_
  refine zo_getI hC fk0_30 (atG hg) dX0_batterRound_1 ?_
  refine zo_if_le (tgt := 20) hC dX0_batterRound_4 (by decide) (fun c_1 => ?_) (fun c_1 => ?_)
  · refine zo_iconst (v := (-1)) hC (by decide) dX0_batterRound_20 ?_
    refine zo_sub [] (lv' := []) rfl ?_
    exact Zf_X0_batterRound_21 hC g hg I L (-1)
  · refine zo_aload_n hC dX0_batterRound_7 rfl 0 rfl ?_
    refine zo_iload_n hC dX0_batterRound_8 rfl 1 rfl ?_
    refine zo_aload_n hC dX0_batterRound_9 rfl 0 rfl ?_
    refine zo_getI hC fk0_30 (atG hg) dX0_batterRound_10 ?_
    refine zo_as (fun h_2 => ?_)
    refine zo_irem_ hC h_2 dX0_batterRound_13 ?_
    refine zo_callV_i hC (ci := 0) [.int (e_rm v1 (I g 0))] [] me_X0_batterAt mlX0_67 im_X0_batterAt se_X0_batterAt rfl (by decide) (atG hg) (fun p hp => T_X0_batterAt g hg (e_rm v1 (I g 0)) I L p hp) (by decide) rfl (Nat.le_of_ble_eq_true rfl) dX0_batterRound_14 rfl (fun r_3 => ?_)
    refine zo_goto (tgt := 21) hC dX0_batterRound_17 (by decide) ?_
    refine zo_sub [] (lv' := []) rfl ?_
    exact Zf_X0_batterRound_21 hC g hg I L r_3

theorem T_X0_batterRound (g : Nat) (hg : e_isG g) (v1 : Int32) (I : e_I) (L : e_L) (p : Int32) (hp : f_X0_batterRound g v1 I = some p) : Mt yX0_batterRound cX0_batterRound 2 (some .int) 1 gN [.ref g, .int v1] I L ((ph_i I L) p) := zo_enter hp (by decide) (Nat.le_of_ble_eq_true rfl) (fun X hC => Zf_X0_batterRound hC g hg v1 I L)
def f_X0_batterBehind_30 (g : Nat) (I : e_I) (s0 : Int32) : Option (Int32) :=
  some s0
set_option maxRecDepth 100000 in
set_option maxHeartbeats 4000000 in
theorem Zf_X0_batterBehind_30 {X : e_X} (hC : e_C X cX0_batterBehind RX0 2 (some .int) 2 gN) (g : Nat) (hg : e_isG g) (I : e_I) (L : e_L) (s0 : Int32) : Zo X (ph_i I L) (f_X0_batterBehind_30 g I s0) 30 [] [.int s0] I L := by
  unfold f_X0_batterBehind_30
  exact zo_iret hC rfl dX0_batterBehind_30

def f_X0_batterBehind (g : Nat) (v1 : Int32) (I : e_I) : Option (Int32) :=
  if (I g 0) ≤ 0 then (
    f_X0_batterBehind_30 g I (-1))
  else (
    e_b1 (f_X0_placeOf g (I g 4) I) (fun (r_2 : Int32) =>
    e_as (¬ (I g 0) = 0) (
    e_b1 (f_X0_batterRound g (r_2 + (e_rm v1 (I g 0))) I) (fun (r_4 : Int32) =>
    f_X0_batterBehind_30 g I r_4))))
set_option maxRecDepth 100000 in
set_option maxHeartbeats 4000000 in
theorem Zf_X0_batterBehind {X : e_X} (hC : e_C X cX0_batterBehind RX0 2 (some .int) 2 gN) (g : Nat) (hg : e_isG g) (v1 : Int32) (I : e_I) (L : e_L) : Zo X (ph_i I L) (f_X0_batterBehind g v1 I) 0 [(0, .ref g), (1, .int v1)] [] I L := by
  unfold f_X0_batterBehind
  refine zo_aload_n hC dX0_batterBehind_0 rfl 0 rfl ?_
  refine zo_getI hC fk0_30 (atG hg) dX0_batterBehind_1 ?_
  refine zo_if_le (tgt := 29) hC dX0_batterBehind_4 (by decide) (fun c_1 => ?_) (fun c_1 => ?_)
  · refine zo_iconst (v := (-1)) hC (by decide) dX0_batterBehind_29 ?_
    refine zo_sub [] (lv' := []) rfl ?_
    exact Zf_X0_batterBehind_30 hC g hg I L (-1)
  · refine zo_aload_n hC dX0_batterBehind_7 rfl 0 rfl ?_
    refine zo_aload_n hC dX0_batterBehind_8 rfl 0 rfl ?_
    refine zo_aload_n hC dX0_batterBehind_9 rfl 0 rfl ?_
    refine zo_getI hC fk0_51 (atG hg) dX0_batterBehind_10 ?_
    refine zo_callV_i hC (ci := 0) [.int (I g 4)] [.ref g] me_X0_placeOf mlX0_75 im_X0_placeOf se_X0_placeOf rfl (by decide) (atG hg) (fun p hp => T_X0_placeOf g hg (I g 4) I L p hp) (by decide) rfl (Nat.le_of_ble_eq_true rfl) dX0_batterBehind_13 rfl (fun r_2 => ?_)
    refine zo_iload_n hC dX0_batterBehind_16 rfl 1 rfl ?_
    refine zo_aload_n hC dX0_batterBehind_17 rfl 0 rfl ?_
    refine zo_getI hC fk0_30 (atG hg) dX0_batterBehind_18 ?_
    refine zo_as (fun h_3 => ?_)
    refine zo_irem_ hC h_3 dX0_batterBehind_21 ?_
    refine zo_iadd hC dX0_batterBehind_22 ?_
    refine zo_callV_i hC (ci := 0) [.int (r_2 + (e_rm v1 (I g 0)))] [] me_X0_batterRound mlX0_78 im_X0_batterRound se_X0_batterRound rfl (by decide) (atG hg) (fun p hp => T_X0_batterRound g hg (r_2 + (e_rm v1 (I g 0))) I L p hp) (by decide) rfl (Nat.le_of_ble_eq_true rfl) dX0_batterBehind_23 rfl (fun r_4 => ?_)
    refine zo_goto (tgt := 30) hC dX0_batterBehind_26 (by decide) ?_
    refine zo_sub [] (lv' := []) rfl ?_
    exact Zf_X0_batterBehind_30 hC g hg I L r_4

theorem T_X0_batterBehind (g : Nat) (hg : e_isG g) (v1 : Int32) (I : e_I) (L : e_L) (p : Int32) (hp : f_X0_batterBehind g v1 I = some p) : Mt yX0_batterBehind cX0_batterBehind 2 (some .int) 2 gN [.ref g, .int v1] I L ((ph_i I L) p) := zo_enter hp (by decide) (Nat.le_of_ble_eq_true rfl) (fun X hC => Zf_X0_batterBehind hC g hg v1 I L)
def f_X7_coming_35 (s0 : Int32) (I : e_I) : Option (Int32 × e_I) :=
  some (s0, I)
set_option maxRecDepth 100000 in
set_option maxHeartbeats 4000000 in
theorem Zf_X7_coming_35 {X : e_X} (hC : e_C X cX7_coming RX7 2 (some .int) 3 gN) (L : e_L) (s0 : Int32) (I : e_I) : Zo X (ph_iI L) (f_X7_coming_35 s0 I) 35 [] [.int s0] I L := by
  unfold f_X7_coming_35
  exact zo_iret hC rfl dX7_coming_35

def f_X7_coming_17 (v1 : Int32) (s0 : Int32) (I : e_I) : Option (Int32 × e_I) :=
  e_b2 (f_X7_refused s0 I) (fun (r_1 : Int32) (I_2 : e_I) =>
  if r_1 = 0 then (
    e_b1 (f_X0_batterBehind 23 v1 I_2) (fun (r_4 : Int32) =>
    f_X7_coming_35 r_4 I_2))
  else (
    f_X7_coming_35 (-1) I_2))
set_option maxRecDepth 100000 in
set_option maxHeartbeats 4000000 in
theorem Zf_X7_coming_17 {X : e_X} (hC : e_C X cX7_coming RX7 2 (some .int) 3 gN) (L : e_L) (v1 : Int32) (s0 : Int32) (I : e_I) : Zo X (ph_iI L) (f_X7_coming_17 v1 s0 I) 17 [(0, .ref 0), (1, .int v1)] [.int s0, .ref 0] I L := by
  unfold f_X7_coming_17
  refine zo_callV_iI hC (ci := 7) [.int s0] [] me_X7_refused mlX7_70 im_X7_refused se_X7_refused rfl (by decide) at_0 (fun p hp => T_X7_refused s0 I L p hp) (by decide) rfl (Nat.le_of_ble_eq_true rfl) dX7_coming_17 rfl (fun r_1 I_2 => ?_)
  refine zo_if_eq (tgt := 27) hC dX7_coming_20 (by decide) (fun c_3 => ?_) (fun c_3 => ?_)
  · refine zo_aload_n hC dX7_coming_27 rfl 0 rfl ?_
    refine zo_getR hC (r := 23) fk7_23 (by decide) gr_0_2 at_0 dX7_coming_28 ?_
    refine zo_iload_n hC dX7_coming_31 rfl 1 rfl ?_
    refine zo_callV_i hC (ci := 0) [.int v1] [] me_X0_batterBehind mlX7_164 im_X0_batterBehind se_X0_batterBehind rfl (by decide) at_23 (fun p hp => T_X0_batterBehind 23 isG_23 v1 I_2 L p hp) (by decide) rfl (Nat.le_of_ble_eq_true rfl) dX7_coming_32 rfl (fun r_4 => ?_)
    refine zo_sub [] (lv' := []) rfl ?_
    exact Zf_X7_coming_35 hC L r_4 I_2
  · refine zo_iconst (v := (-1)) hC (by decide) dX7_coming_23 ?_
    refine zo_goto (tgt := 35) hC dX7_coming_24 (by decide) ?_
    refine zo_sub [] (lv' := []) rfl ?_
    exact Zf_X7_coming_35 hC L (-1) I_2

def f_X7_coming_16 (v1 : Int32) (I : e_I) : Option (Int32 × e_I) :=
  f_X7_coming_17 v1 1 I
set_option maxRecDepth 100000 in
set_option maxHeartbeats 4000000 in
theorem Zf_X7_coming_16 {X : e_X} (hC : e_C X cX7_coming RX7 2 (some .int) 3 gN) (L : e_L) (v1 : Int32) (I : e_I) : Zo X (ph_iI L) (f_X7_coming_16 v1 I) 16 [(0, .ref 0), (1, .int v1)] [.ref 0] I L := by
  unfold f_X7_coming_16
  refine zo_iconst (v := 1) hC (by decide) dX7_coming_16 ?_
  exact Zf_X7_coming_17 hC L v1 1 I

def f_X7_coming (v1 : Int32) (I : e_I) : Option (Int32 × e_I) :=
  e_b1 (f_X7_hasText I) (fun (r_1 : Int32) =>
  if r_1 = 0 then (
    f_X7_coming_16 v1 I)
  else (
    if v1 < 0 then (
      f_X7_coming_16 v1 I)
    else (
      f_X7_coming_17 v1 0 I)))
set_option maxRecDepth 100000 in
set_option maxHeartbeats 4000000 in
theorem Zf_X7_coming {X : e_X} (hC : e_C X cX7_coming RX7 2 (some .int) 3 gN) (v1 : Int32) (I : e_I) (L : e_L) : Zo X (ph_iI L) (f_X7_coming v1 I) 0 [(0, .ref 0), (1, .int v1)] [] I L := by
  unfold f_X7_coming
  refine zo_aload_n hC dX7_coming_0 rfl 0 rfl ?_
  refine zo_aload_n hC dX7_coming_1 rfl 0 rfl ?_
  refine zo_callV_i hC (ci := 7) [] [.ref 0] me_X7_hasText mlX7_110 im_X7_hasText se_X7_hasText rfl (by decide) at_0 (fun p hp => T_X7_hasText I L p hp) (by decide) rfl (Nat.le_of_ble_eq_true rfl) dX7_coming_2 rfl (fun r_1 => ?_)
  refine zo_if_eq (tgt := 16) hC dX7_coming_5 (by decide) (fun c_2 => ?_) (fun c_2 => ?_)
  · exact Zf_X7_coming_16 hC L v1 I
  · refine zo_iload_n hC dX7_coming_8 rfl 1 rfl ?_
    refine zo_if_lt (tgt := 16) hC dX7_coming_9 (by decide) (fun c_3 => ?_) (fun c_3 => ?_)
    · exact Zf_X7_coming_16 hC L v1 I
    · refine zo_iconst (v := 0) hC (by decide) dX7_coming_12 ?_
      refine zo_goto (tgt := 17) hC dX7_coming_13 (by decide) ?_
      exact Zf_X7_coming_17 hC L v1 0 I

theorem T_X7_coming (v1 : Int32) (I : e_I) (L : e_L) (p : Int32 × e_I) (hp : f_X7_coming v1 I = some p) : Mt yX7_coming cX7_coming 2 (some .int) 3 gN [.ref 0, .int v1] I L ((ph_iI L) p) := zo_enter hp (by decide) (Nat.le_of_ble_eq_true rfl) (fun X hC => Zf_X7_coming hC v1 I L)
def f_X7_isHit (v0 : Int32) : Option (Int32) :=
  e_b1 (f_X7_within v0 0 5) (fun (r_1 : Int32) =>
  e_as (r_1 = 0 ∨ r_1 = 1) (
  some r_1))
set_option maxRecDepth 100000 in
set_option maxHeartbeats 4000000 in
theorem Zf_X7_isHit {X : e_X} (hC : e_C X cX7_isHit RX7 1 (some .boolean) 1 gN) (v0 : Int32) (I : e_I) (L : e_L) : Zo X (ph_i I L) (f_X7_isHit v0) 0 [(0, .int v0)] [] I L := by
  unfold f_X7_isHit
  refine zo_iload_n hC dX7_isHit_0 rfl 0 rfl ?_
  refine zo_iconst (v := 0) hC (by decide) dX7_isHit_1 ?_
  refine zo_iconst (v := 5) hC (by decide) dX7_isHit_2 ?_
  refine zo_callS_i hC [.int v0, .int 0, .int 5] [] me_X7_within mlX7_66 sm_X7_within (fun p hp => T_X7_within v0 0 5 I L p hp) (by decide) rfl (Nat.le_of_ble_eq_true rfl) dX7_isHit_3 rfl (fun r_1 => ?_)
  refine zo_as (fun h_2 => ?_)
  exact zo_zret hC h_2 rfl dX7_isHit_6

theorem T_X7_isHit (v0 : Int32) (I : e_I) (L : e_L) (p : Int32) (hp : f_X7_isHit v0 = some p) : Mt yX7_isHit cX7_isHit 1 (some .boolean) 1 gN [.int v0] I L ((ph_i I L) p) := zo_enter hp (by decide) (Nat.le_of_ble_eq_true rfl) (fun X hC => Zf_X7_isHit hC v0 I L)
def f_X0_tiredBy_27 (g : Nat) (I : e_I) (s0 : Int32) : Option (Int32) :=
  some s0
set_option maxRecDepth 100000 in
set_option maxHeartbeats 4000000 in
theorem Zf_X0_tiredBy_27 {X : e_X} (hC : e_C X cX0_tiredBy RX0 4 (some .int) 1 gN) (g : Nat) (hg : e_isG g) (I : e_I) (L : e_L) (s0 : Int32) : Zo X (ph_i I L) (f_X0_tiredBy_27 g I s0) 27 [] [.int s0] I L := by
  unfold f_X0_tiredBy_27
  exact zo_iret hC rfl dX0_tiredBy_27

def f_X0_tiredBy (g : Nat) (v1 : Int32) (v2 : Int32) (I : e_I) : Option (Int32) :=
  e_let (I (g + 2) (4 : Int32).toNatClampNeg) (fun (x_1 : Int32) =>
  if x_1 ≤ 0 then (
    f_X0_tiredBy_27 g I 0)
  else (
    e_b1 (f_X0_chanceOf g v1 0 I) (fun (r_3 : Int32) =>
    e_as (¬ x_1 = 0) (
    f_X0_tiredBy_27 g I (e_min r_3 (v2 / x_1))))))
set_option maxRecDepth 100000 in
set_option maxHeartbeats 4000000 in
theorem Zf_X0_tiredBy {X : e_X} (hC : e_C X cX0_tiredBy RX0 4 (some .int) 1 gN) (g : Nat) (hg : e_isG g) (v1 : Int32) (v2 : Int32) (I : e_I) (L : e_L) : Zo X (ph_i I L) (f_X0_tiredBy g v1 v2 I) 0 [(0, .ref g), (1, .int v1), (2, .int v2)] [] I L := by
  unfold f_X0_tiredBy
  refine zo_aload_n hC dX0_tiredBy_0 rfl 0 rfl ?_
  refine zo_getR hC (r := (g + 2)) fk0_15 (by decide) (grG9 hg) (atG hg) dX0_tiredBy_1 ?_
  refine zo_iconst (v := 4) hC (by decide) dX0_tiredBy_4 ?_
  refine zo_iald hC (arG2 hg) (e_ix_vp (by decide)) dX0_tiredBy_5 ?_
  refine zo_topi (fun x_1 => ?_)
  refine zo_istore_n (lv' := [(3, .int x_1), (0, .ref g), (1, .int v1), (2, .int v2)]) hC dX0_tiredBy_6 rfl (by decide) rfl ?_
  refine zo_iload_n hC dX0_tiredBy_7 rfl 0 rfl ?_
  refine zo_if_le (tgt := 26) hC dX0_tiredBy_8 (by decide) (fun c_2 => ?_) (fun c_2 => ?_)
  · refine zo_iconst (v := 0) hC (by decide) dX0_tiredBy_26 ?_
    refine zo_sub [] (lv' := []) rfl ?_
    exact Zf_X0_tiredBy_27 hC g hg I L 0
  · refine zo_aload_n hC dX0_tiredBy_11 rfl 1 rfl ?_
    refine zo_iload_n hC dX0_tiredBy_12 rfl 2 rfl ?_
    refine zo_iconst (v := 0) hC (by decide) dX0_tiredBy_13 ?_
    refine zo_callV_i hC (ci := 0) [.int v1, .int 0] [] me_X0_chanceOf mlX0_81 im_X0_chanceOf se_X0_chanceOf rfl (by decide) (atG hg) (fun p hp => T_X0_chanceOf g hg v1 0 I L p hp) (by decide) rfl (Nat.le_of_ble_eq_true rfl) dX0_tiredBy_14 rfl (fun r_3 => ?_)
    refine zo_iload_n hC dX0_tiredBy_17 rfl 3 rfl ?_
    refine zo_iload_n hC dX0_tiredBy_18 rfl 0 rfl ?_
    refine zo_as (fun h_4 => ?_)
    refine zo_idiv hC h_4 dX0_tiredBy_19 ?_
    refine zo_mmin_ hC mlX0_88 st_mmin in_Math cd_mmin (Nat.le_of_ble_eq_true rfl) dX0_tiredBy_20 ?_
    refine zo_goto (tgt := 27) hC dX0_tiredBy_23 (by decide) ?_
    refine zo_sub [] (lv' := []) rfl ?_
    exact Zf_X0_tiredBy_27 hC g hg I L (e_min r_3 (v2 / x_1))

theorem T_X0_tiredBy (g : Nat) (hg : e_isG g) (v1 : Int32) (v2 : Int32) (I : e_I) (L : e_L) (p : Int32) (hp : f_X0_tiredBy g v1 v2 I = some p) : Mt yX0_tiredBy cX0_tiredBy 4 (some .int) 1 gN [.ref g, .int v1, .int v2] I L ((ph_i I L) p) := zo_enter hp (by decide) (Nat.le_of_ble_eq_true rfl) (fun X hC => Zf_X0_tiredBy hC g hg v1 v2 I L)
def f_X0_tiredChance_43 (g : Nat) (I : e_I) (s0 : Int32) : Option (Int32) :=
  some s0
set_option maxRecDepth 100000 in
set_option maxHeartbeats 4000000 in
theorem Zf_X0_tiredChance_43 {X : e_X} (hC : e_C X cX0_tiredChance RX0 5 (some .int) 2 gN) (g : Nat) (hg : e_isG g) (I : e_I) (L : e_L) (s0 : Int32) : Zo X (ph_i I L) (f_X0_tiredChance_43 g I s0) 43 [] [.int s0] I L := by
  unfold f_X0_tiredChance_43
  exact zo_iret hC rfl dX0_tiredChance_43

def f_X0_tiredChance (g : Nat) (v1 : Int32) (v2 : Int32) (v3 : Int32) (I : e_I) : Option (Int32) :=
  e_b1 (f_X0_chanceOf g v1 v2 I) (fun (r_1 : Int32) =>
  if v2 ≠ 0 then (
    if v2 ≠ 2 then (
      f_X0_tiredChance_43 g I r_1)
    else (
      e_b1 (f_X0_tiredBy g v1 v3 I) (fun (r_4 : Int32) =>
      f_X0_tiredChance_43 g I (r_1 + r_4))))
  else (
    e_b1 (f_X0_tiredBy g v1 v3 I) (fun (r_5 : Int32) =>
    f_X0_tiredChance_43 g I (r_1 - r_5))))
set_option maxRecDepth 100000 in
set_option maxHeartbeats 4000000 in
theorem Zf_X0_tiredChance {X : e_X} (hC : e_C X cX0_tiredChance RX0 5 (some .int) 2 gN) (g : Nat) (hg : e_isG g) (v1 : Int32) (v2 : Int32) (v3 : Int32) (I : e_I) (L : e_L) : Zo X (ph_i I L) (f_X0_tiredChance g v1 v2 v3 I) 0 [(0, .ref g), (1, .int v1), (2, .int v2), (3, .int v3)] [] I L := by
  unfold f_X0_tiredChance
  refine zo_aload_n hC dX0_tiredChance_0 rfl 0 rfl ?_
  refine zo_iload_n hC dX0_tiredChance_1 rfl 1 rfl ?_
  refine zo_iload_n hC dX0_tiredChance_2 rfl 2 rfl ?_
  refine zo_callV_i hC (ci := 0) [.int v1, .int v2] [] me_X0_chanceOf mlX0_81 im_X0_chanceOf se_X0_chanceOf rfl (by decide) (atG hg) (fun p hp => T_X0_chanceOf g hg v1 v2 I L p hp) (by decide) rfl (Nat.le_of_ble_eq_true rfl) dX0_tiredChance_3 rfl (fun r_1 => ?_)
  refine zo_istore (lv' := [(4, .int r_1), (0, .ref g), (1, .int v1), (2, .int v2), (3, .int v3)]) hC dX0_tiredChance_6 (by decide) rfl ?_
  refine zo_iload_n hC dX0_tiredChance_8 rfl 3 rfl ?_
  refine zo_if_ne (tgt := 24) hC dX0_tiredChance_9 (by decide) (fun c_2 => ?_) (fun c_2 => ?_)
  · refine zo_iload_n hC dX0_tiredChance_24 rfl 3 rfl ?_
    refine zo_iconst (v := 2) hC (by decide) dX0_tiredChance_25 ?_
    refine zo_icmp_ne (tgt := 41) hC dX0_tiredChance_26 (by decide) (fun c_3 => ?_) (fun c_3 => ?_)
    · refine zo_iload hC dX0_tiredChance_41 0 rfl ?_
      refine zo_sub [] (lv' := []) rfl ?_
      exact Zf_X0_tiredChance_43 hC g hg I L r_1
    · refine zo_iload hC dX0_tiredChance_29 0 rfl ?_
      refine zo_aload_n hC dX0_tiredChance_31 rfl 1 rfl ?_
      refine zo_iload_n hC dX0_tiredChance_32 rfl 2 rfl ?_
      refine zo_iload_n hC dX0_tiredChance_33 rfl 4 rfl ?_
      refine zo_callV_i hC (ci := 0) [.int v1, .int v3] [.int r_1] me_X0_tiredBy mlX0_85 im_X0_tiredBy se_X0_tiredBy rfl (by decide) (atG hg) (fun p hp => T_X0_tiredBy g hg v1 v3 I L p hp) (by decide) rfl (Nat.le_of_ble_eq_true rfl) dX0_tiredChance_34 rfl (fun r_4 => ?_)
      refine zo_iadd hC dX0_tiredChance_37 ?_
      refine zo_goto (tgt := 43) hC dX0_tiredChance_38 (by decide) ?_
      refine zo_sub [] (lv' := []) rfl ?_
      exact Zf_X0_tiredChance_43 hC g hg I L (r_1 + r_4)
  · refine zo_iload hC dX0_tiredChance_12 0 rfl ?_
    refine zo_aload_n hC dX0_tiredChance_14 rfl 1 rfl ?_
    refine zo_iload_n hC dX0_tiredChance_15 rfl 2 rfl ?_
    refine zo_iload_n hC dX0_tiredChance_16 rfl 4 rfl ?_
    refine zo_callV_i hC (ci := 0) [.int v1, .int v3] [.int r_1] me_X0_tiredBy mlX0_85 im_X0_tiredBy se_X0_tiredBy rfl (by decide) (atG hg) (fun p hp => T_X0_tiredBy g hg v1 v3 I L p hp) (by decide) rfl (Nat.le_of_ble_eq_true rfl) dX0_tiredChance_17 rfl (fun r_5 => ?_)
    refine zo_isub hC dX0_tiredChance_20 ?_
    refine zo_goto (tgt := 43) hC dX0_tiredChance_21 (by decide) ?_
    refine zo_sub [] (lv' := []) rfl ?_
    exact Zf_X0_tiredChance_43 hC g hg I L (r_1 - r_5)

theorem T_X0_tiredChance (g : Nat) (hg : e_isG g) (v1 : Int32) (v2 : Int32) (v3 : Int32) (I : e_I) (L : e_L) (p : Int32) (hp : f_X0_tiredChance g v1 v2 v3 I = some p) : Mt yX0_tiredChance cX0_tiredChance 5 (some .int) 2 gN [.ref g, .int v1, .int v2, .int v3] I L ((ph_i I L) p) := zo_enter hp (by decide) (Nat.le_of_ble_eq_true rfl) (fun X hC => Zf_X0_tiredChance hC g hg v1 v2 v3 I L)
def f_X7_chance_39 (v1 : Int32) (v2 : Int32) (v3 : Int32) (s0 : Int32) (I : e_I) : Option (Int32 × e_I) :=
  e_b2 (f_X7_refused s0 I) (fun (r_1 : Int32) (I_2 : e_I) =>
  if r_1 = 0 then (
    e_b1 (f_X0_tiredChance 23 v1 v2 v3 I_2) (fun (r_4 : Int32) =>
    some (r_4, I_2)))
  else (
    some ((-1), I_2)))
set_option maxRecDepth 100000 in
set_option maxHeartbeats 4000000 in
theorem Zf_X7_chance_39 {X : e_X} (hC : e_C X cX7_chance RX7 4 (some .int) 3 gN) (L : e_L) (v1 : Int32) (v2 : Int32) (v3 : Int32) (s0 : Int32) (I : e_I) : Zo X (ph_iI L) (f_X7_chance_39 v1 v2 v3 s0 I) 39 [(0, .ref 0), (1, .int v1), (2, .int v2), (3, .int v3)] [.int s0, .ref 0] I L := by
  unfold f_X7_chance_39
  refine zo_callV_iI hC (ci := 7) [.int s0] [] me_X7_refused mlX7_70 im_X7_refused se_X7_refused rfl (by decide) at_0 (fun p hp => T_X7_refused s0 I L p hp) (by decide) rfl (Nat.le_of_ble_eq_true rfl) dX7_chance_39 rfl (fun r_1 I_2 => ?_)
  refine zo_if_eq (tgt := 47) hC dX7_chance_42 (by decide) (fun c_3 => ?_) (fun c_3 => ?_)
  · refine zo_aload_n hC dX7_chance_47 rfl 0 rfl ?_
    refine zo_getR hC (r := 23) fk7_23 (by decide) gr_0_2 at_0 dX7_chance_48 ?_
    refine zo_iload_n hC dX7_chance_51 rfl 1 rfl ?_
    refine zo_iload_n hC dX7_chance_52 rfl 2 rfl ?_
    refine zo_iload_n hC dX7_chance_53 rfl 3 rfl ?_
    refine zo_callV_i hC (ci := 0) [.int v1, .int v2, .int v3] [] me_X0_tiredChance mlX7_170 im_X0_tiredChance se_X0_tiredChance rfl (by decide) at_23 (fun p hp => T_X0_tiredChance 23 isG_23 v1 v2 v3 I_2 L p hp) (by decide) rfl (Nat.le_of_ble_eq_true rfl) dX7_chance_54 rfl (fun r_4 => ?_)
    exact zo_iret hC rfl dX7_chance_57
  · refine zo_iconst (v := (-1)) hC (by decide) dX7_chance_45 ?_
    exact zo_iret hC rfl dX7_chance_46

def f_X7_chance_19 (v1 : Int32) (v2 : Int32) (v3 : Int32) (I : e_I) : Option (Int32 × e_I) :=
  f_X7_chance_39 v1 v2 v3 1 I
set_option maxRecDepth 100000 in
set_option maxHeartbeats 4000000 in
theorem Zf_X7_chance_19 {X : e_X} (hC : e_C X cX7_chance RX7 4 (some .int) 3 gN) (L : e_L) (v1 : Int32) (v2 : Int32) (v3 : Int32) (I : e_I) : Zo X (ph_iI L) (f_X7_chance_19 v1 v2 v3 I) 19 [(0, .ref 0), (1, .int v1), (2, .int v2), (3, .int v3)] [.ref 0] I L := by
  unfold f_X7_chance_19
  refine zo_iconst (v := 1) hC (by decide) dX7_chance_19 ?_
  refine zo_goto (tgt := 39) hC dX7_chance_20 (by decide) ?_
  exact Zf_X7_chance_39 hC L v1 v2 v3 1 I

def f_X7_chance (v1 : Int32) (v2 : Int32) (v3 : Int32) (I : e_I) : Option (Int32 × e_I) :=
  e_b1 (f_X0_hasBatter 23 v1 I) (fun (r_1 : Int32) =>
  if r_1 = 0 then (
    f_X7_chance_19 v1 v2 v3 I)
  else (
    e_b1 (f_X7_isHit v2) (fun (r_3 : Int32) =>
    if r_3 ≠ 0 then (
      e_b1 (f_X7_within v3 0 999) (fun (r_5 : Int32) =>
      if r_5 = 0 then (
        f_X7_chance_39 v1 v2 v3 2 I)
      else (
        f_X7_chance_39 v1 v2 v3 0 I)))
    else (
      f_X7_chance_19 v1 v2 v3 I))))
set_option maxRecDepth 100000 in
set_option maxHeartbeats 4000000 in
theorem Zf_X7_chance {X : e_X} (hC : e_C X cX7_chance RX7 4 (some .int) 3 gN) (v1 : Int32) (v2 : Int32) (v3 : Int32) (I : e_I) (L : e_L) : Zo X (ph_iI L) (f_X7_chance v1 v2 v3 I) 0 [(0, .ref 0), (1, .int v1), (2, .int v2), (3, .int v3)] [] I L := by
  unfold f_X7_chance
  refine zo_aload_n hC dX7_chance_0 rfl 0 rfl ?_
  refine zo_aload_n hC dX7_chance_1 rfl 0 rfl ?_
  refine zo_getR hC (r := 23) fk7_23 (by decide) gr_0_2 at_0 dX7_chance_2 ?_
  refine zo_iload_n hC dX7_chance_5 rfl 1 rfl ?_
  refine zo_callV_i hC (ci := 0) [.int v1] [.ref 0] me_X0_hasBatter mlX7_142 im_X0_hasBatter se_X0_hasBatter rfl (by decide) at_23 (fun p hp => T_X0_hasBatter 23 isG_23 v1 I L p hp) (by decide) rfl (Nat.le_of_ble_eq_true rfl) dX7_chance_6 rfl (fun r_1 => ?_)
  refine zo_if_eq (tgt := 19) hC dX7_chance_9 (by decide) (fun c_2 => ?_) (fun c_2 => ?_)
  · exact Zf_X7_chance_19 hC L v1 v2 v3 I
  · refine zo_iload_n hC dX7_chance_12 rfl 2 rfl ?_
    refine zo_callS_i hC [.int v2] [.ref 0] me_X7_isHit mlX7_167 sm_X7_isHit (fun p hp => T_X7_isHit v2 I L p hp) (by decide) rfl (Nat.le_of_ble_eq_true rfl) dX7_chance_13 rfl (fun r_3 => ?_)
    refine zo_if_ne (tgt := 23) hC dX7_chance_16 (by decide) (fun c_4 => ?_) (fun c_4 => ?_)
    · refine zo_iload_n hC dX7_chance_23 rfl 3 rfl ?_
      refine zo_iconst (v := 0) hC (by decide) dX7_chance_24 ?_
      refine zo_sipush (v := 999) hC (by decide) dX7_chance_25 ?_
      refine zo_callS_i hC [.int v3, .int 0, .int 999] [.ref 0] me_X7_within mlX7_66 sm_X7_within (fun p hp => T_X7_within v3 0 999 I L p hp) (by decide) rfl (Nat.le_of_ble_eq_true rfl) dX7_chance_28 rfl (fun r_5 => ?_)
      refine zo_if_eq (tgt := 38) hC dX7_chance_31 (by decide) (fun c_6 => ?_) (fun c_6 => ?_)
      · refine zo_iconst (v := 2) hC (by decide) dX7_chance_38 ?_
        exact Zf_X7_chance_39 hC L v1 v2 v3 2 I
      · refine zo_iconst (v := 0) hC (by decide) dX7_chance_34 ?_
        refine zo_goto (tgt := 39) hC dX7_chance_35 (by decide) ?_
        exact Zf_X7_chance_39 hC L v1 v2 v3 0 I
    · exact Zf_X7_chance_19 hC L v1 v2 v3 I

theorem T_X7_chance (v1 : Int32) (v2 : Int32) (v3 : Int32) (I : e_I) (L : e_L) (p : Int32 × e_I) (hp : f_X7_chance v1 v2 v3 I = some p) : Mt yX7_chance cX7_chance 4 (some .int) 3 gN [.ref 0, .int v1, .int v2, .int v3] I L ((ph_iI L) p) := zo_enter hp (by decide) (Nat.le_of_ble_eq_true rfl) (fun X hC => Zf_X7_chance hC v1 v2 v3 I L)
def f_X7_isState_24 (s0 : Int32) : Option (Int32) :=
  e_as (s0 = 0 ∨ s0 = 1) (
  some s0)
set_option maxRecDepth 100000 in
set_option maxHeartbeats 4000000 in
theorem Zf_X7_isState_24 {X : e_X} (hC : e_C X cX7_isState RX7 2 (some .boolean) 1 gN) (I : e_I) (L : e_L) (s0 : Int32) : Zo X (ph_i I L) (f_X7_isState_24 s0) 24 [] [.int s0] I L := by
  unfold f_X7_isState_24
  refine zo_as (fun h_1 => ?_)
  exact zo_zret hC h_1 rfl dX7_isState_24

def f_X7_isState_23 : Option (Int32) :=
  f_X7_isState_24 0
set_option maxRecDepth 100000 in
set_option maxHeartbeats 4000000 in
theorem Zf_X7_isState_23 {X : e_X} (hC : e_C X cX7_isState RX7 2 (some .boolean) 1 gN) (I : e_I) (L : e_L) : Zo X (ph_i I L) (f_X7_isState_23) 23 [] [] I L := by
  unfold f_X7_isState_23
  refine zo_iconst (v := 0) hC (by decide) dX7_isState_23 ?_
  exact Zf_X7_isState_24 hC I L 0

def f_X7_isState (v0 : Int32) (v1 : Int32) : Option (Int32) :=
  e_b1 (f_X7_within v0 0 7) (fun (r_1 : Int32) =>
  if r_1 = 0 then (
    f_X7_isState_23 )
  else (
    e_b1 (f_X7_within v1 0 2) (fun (r_3 : Int32) =>
    if r_3 = 0 then (
      f_X7_isState_23 )
    else (
      f_X7_isState_24 1))))
set_option maxRecDepth 100000 in
set_option maxHeartbeats 4000000 in
theorem Zf_X7_isState {X : e_X} (hC : e_C X cX7_isState RX7 2 (some .boolean) 1 gN) (v0 : Int32) (v1 : Int32) (I : e_I) (L : e_L) : Zo X (ph_i I L) (f_X7_isState v0 v1) 0 [(0, .int v0), (1, .int v1)] [] I L := by
  unfold f_X7_isState
  refine zo_iload_n hC dX7_isState_0 rfl 0 rfl ?_
  refine zo_iconst (v := 0) hC (by decide) dX7_isState_1 ?_
  refine zo_bipush (v := 7) hC (by decide) dX7_isState_2 ?_
  refine zo_callS_i hC [.int v0, .int 0, .int 7] [] me_X7_within mlX7_66 sm_X7_within (fun p hp => T_X7_within v0 0 7 I L p hp) (by decide) rfl (Nat.le_of_ble_eq_true rfl) dX7_isState_4 rfl (fun r_1 => ?_)
  refine zo_if_eq (tgt := 23) hC dX7_isState_7 (by decide) (fun c_2 => ?_) (fun c_2 => ?_)
  · refine zo_sub [] (lv' := []) rfl ?_
    exact Zf_X7_isState_23 hC I L 
  · refine zo_iload_n hC dX7_isState_10 rfl 1 rfl ?_
    refine zo_iconst (v := 0) hC (by decide) dX7_isState_11 ?_
    refine zo_iconst (v := 2) hC (by decide) dX7_isState_12 ?_
    refine zo_callS_i hC [.int v1, .int 0, .int 2] [] me_X7_within mlX7_66 sm_X7_within (fun p hp => T_X7_within v1 0 2 I L p hp) (by decide) rfl (Nat.le_of_ble_eq_true rfl) dX7_isState_13 rfl (fun r_3 => ?_)
    refine zo_if_eq (tgt := 23) hC dX7_isState_16 (by decide) (fun c_4 => ?_) (fun c_4 => ?_)
    · refine zo_sub [] (lv' := []) rfl ?_
      exact Zf_X7_isState_23 hC I L 
    · refine zo_iconst (v := 1) hC (by decide) dX7_isState_19 ?_
      refine zo_goto (tgt := 24) hC dX7_isState_20 (by decide) ?_
      refine zo_sub [] (lv' := []) rfl ?_
      exact Zf_X7_isState_24 hC I L 1

theorem T_X7_isState (v0 : Int32) (v1 : Int32) (I : e_I) (L : e_L) (p : Int32) (hp : f_X7_isState v0 v1 = some p) : Mt yX7_isState cX7_isState 2 (some .boolean) 1 gN [.int v0, .int v1] I L ((ph_i I L) p) := zo_enter hp (by decide) (Nat.le_of_ble_eq_true rfl) (fun X hC => Zf_X7_isState hC v0 v1 I L)
def f_X2_behind_35 (I : e_I) (s0 : Int32) : Option (Int32) :=
  some s0
set_option maxRecDepth 100000 in
set_option maxHeartbeats 4000000 in
theorem Zf_X2_behind_35 {X : e_X} (hC : e_C X cX2_behind RX2 3 (some .int) 0 gN) (I : e_I) (L : e_L) (s0 : Int32) : Zo X (ph_i I L) (f_X2_behind_35 I s0) 35 [] [.int s0] I L := by
  unfold f_X2_behind_35
  exact zo_iret hC rfl dX2_behind_35

def f_X2_behind_34 (I : e_I) : Option (Int32) :=
  f_X2_behind_35 I (-1)
set_option maxRecDepth 100000 in
set_option maxHeartbeats 4000000 in
theorem Zf_X2_behind_34 {X : e_X} (hC : e_C X cX2_behind RX2 3 (some .int) 0 gN) (I : e_I) (L : e_L) : Zo X (ph_i I L) (f_X2_behind_34 I) 34 [] [] I L := by
  unfold f_X2_behind_34
  refine zo_iconst (v := (-1)) hC (by decide) dX2_behind_34 ?_
  exact Zf_X2_behind_35 hC I L (-1)

def f_X2_behind (v1 : Int32) (v2 : Int32) (I : e_I) : Option (Int32) :=
  if v1 < 0 then (
    f_X2_behind_34 I )
  else (
    if v1 ≥ 9 then (
      f_X2_behind_34 I )
    else (
      if v2 < 0 then (
        f_X2_behind_34 I )
      else (
        if v2 ≥ 24 then (
          f_X2_behind_34 I )
        else (
          e_as (e_ix ((v1 * 24) + v2) 216 = true) (
          f_X2_behind_35 I (I 13 ((v1 * 24) + v2).toNatClampNeg))))))
set_option maxRecDepth 100000 in
set_option maxHeartbeats 4000000 in
theorem Zf_X2_behind {X : e_X} (hC : e_C X cX2_behind RX2 3 (some .int) 0 gN) (v1 : Int32) (v2 : Int32) (I : e_I) (L : e_L) : Zo X (ph_i I L) (f_X2_behind v1 v2 I) 0 [(0, .ref 12), (1, .int v1), (2, .int v2)] [] I L := by
  unfold f_X2_behind
  refine zo_iload_n hC dX2_behind_0 rfl 1 rfl ?_
  refine zo_if_lt (tgt := 34) hC dX2_behind_1 (by decide) (fun c_1 => ?_) (fun c_1 => ?_)
  · refine zo_sub [] (lv' := []) rfl ?_
    exact Zf_X2_behind_34 hC I L 
  · refine zo_iload_n hC dX2_behind_4 rfl 1 rfl ?_
    refine zo_bipush (v := 9) hC (by decide) dX2_behind_5 ?_
    refine zo_icmp_ge (tgt := 34) hC dX2_behind_7 (by decide) (fun c_2 => ?_) (fun c_2 => ?_)
    · refine zo_sub [] (lv' := []) rfl ?_
      exact Zf_X2_behind_34 hC I L 
    · refine zo_iload_n hC dX2_behind_10 rfl 2 rfl ?_
      refine zo_if_lt (tgt := 34) hC dX2_behind_11 (by decide) (fun c_3 => ?_) (fun c_3 => ?_)
      · refine zo_sub [] (lv' := []) rfl ?_
        exact Zf_X2_behind_34 hC I L 
      · refine zo_iload_n hC dX2_behind_14 rfl 2 rfl ?_
        refine zo_bipush (v := 24) hC (by decide) dX2_behind_15 ?_
        refine zo_icmp_ge (tgt := 34) hC dX2_behind_17 (by decide) (fun c_4 => ?_) (fun c_4 => ?_)
        · refine zo_sub [] (lv' := []) rfl ?_
          exact Zf_X2_behind_34 hC I L 
        · refine zo_aload_n hC dX2_behind_20 rfl 0 rfl ?_
          refine zo_getR hC (r := 13) fk2_9 (by decide) gr_12_0 at_12 dX2_behind_21 ?_
          refine zo_iload_n hC dX2_behind_24 rfl 1 rfl ?_
          refine zo_bipush (v := 24) hC (by decide) dX2_behind_25 ?_
          refine zo_imul hC dX2_behind_27 ?_
          refine zo_iload_n hC dX2_behind_28 rfl 2 rfl ?_
          refine zo_iadd hC dX2_behind_29 ?_
          refine zo_as (fun h_5 => ?_)
          refine zo_iald hC ar_13 (e_ix_vp h_5) dX2_behind_30 ?_
          refine zo_goto (tgt := 35) hC dX2_behind_31 (by decide) ?_
          refine zo_sub [] (lv' := []) rfl ?_
          exact Zf_X2_behind_35 hC I L (I 13 ((v1 * 24) + v2).toNatClampNeg)

theorem T_X2_behind (v1 : Int32) (v2 : Int32) (I : e_I) (L : e_L) (p : Int32) (hp : f_X2_behind v1 v2 I = some p) : Mt yX2_behind cX2_behind 3 (some .int) 0 gN [.ref 12, .int v1, .int v2] I L ((ph_i I L) p) := zo_enter hp (by decide) (Nat.le_of_ble_eq_true rfl) (fun X hC => Zf_X2_behind hC v1 v2 I L)
def f_X2_can_15 (I : e_I) (s0 : Int32) : Option (Int32) :=
  e_as (s0 = 0 ∨ s0 = 1) (
  some s0)
set_option maxRecDepth 100000 in
set_option maxHeartbeats 4000000 in
theorem Zf_X2_can_15 {X : e_X} (hC : e_C X cX2_can RX2 3 (some .boolean) 1 gN) (I : e_I) (L : e_L) (s0 : Int32) : Zo X (ph_i I L) (f_X2_can_15 I s0) 15 [] [.int s0] I L := by
  unfold f_X2_can_15
  refine zo_as (fun h_1 => ?_)
  exact zo_zret hC h_1 rfl dX2_can_15

def f_X2_can (v1 : Int32) (v2 : Int32) (I : e_I) : Option (Int32) :=
  e_b1 (f_X2_behind v1 v2 I) (fun (r_1 : Int32) =>
  if r_1 = (-1) then (
    f_X2_can_15 I 0)
  else (
    f_X2_can_15 I 1))
set_option maxRecDepth 100000 in
set_option maxHeartbeats 4000000 in
theorem Zf_X2_can {X : e_X} (hC : e_C X cX2_can RX2 3 (some .boolean) 1 gN) (v1 : Int32) (v2 : Int32) (I : e_I) (L : e_L) : Zo X (ph_i I L) (f_X2_can v1 v2 I) 0 [(0, .ref 12), (1, .int v1), (2, .int v2)] [] I L := by
  unfold f_X2_can
  refine zo_aload_n hC dX2_can_0 rfl 0 rfl ?_
  refine zo_iload_n hC dX2_can_1 rfl 1 rfl ?_
  refine zo_iload_n hC dX2_can_2 rfl 2 rfl ?_
  refine zo_callV_i hC (ci := 2) [.int v1, .int v2] [] me_X2_behind mlX2_62 im_X2_behind se_X2_behind rfl (by decide) at_12 (fun p hp => T_X2_behind v1 v2 I L p hp) (by decide) rfl (Nat.le_of_ble_eq_true rfl) dX2_can_3 rfl (fun r_1 => ?_)
  refine zo_iconst (v := (-1)) hC (by decide) dX2_can_6 ?_
  refine zo_icmp_eq (tgt := 14) hC dX2_can_7 (by decide) (fun c_2 => ?_) (fun c_2 => ?_)
  · refine zo_iconst (v := 0) hC (by decide) dX2_can_14 ?_
    refine zo_sub [] (lv' := []) rfl ?_
    exact Zf_X2_can_15 hC I L 0
  · refine zo_iconst (v := 1) hC (by decide) dX2_can_10 ?_
    refine zo_goto (tgt := 15) hC dX2_can_11 (by decide) ?_
    refine zo_sub [] (lv' := []) rfl ?_
    exact Zf_X2_can_15 hC I L 1

theorem T_X2_can (v1 : Int32) (v2 : Int32) (I : e_I) (L : e_L) (p : Int32) (hp : f_X2_can v1 v2 I = some p) : Mt yX2_can cX2_can 3 (some .boolean) 1 gN [.ref 12, .int v1, .int v2] I L ((ph_i I L) p) := zo_enter hp (by decide) (Nat.le_of_ble_eq_true rfl) (fun X hC => Zf_X2_can hC v1 v2 I L)
def f_X7_troubleOfAfter_27 (I : e_I) : Option (Int32) :=
  some 1
set_option maxRecDepth 100000 in
set_option maxHeartbeats 4000000 in
theorem Zf_X7_troubleOfAfter_27 {X : e_X} (hC : e_C X cX7_troubleOfAfter RX7 5 (some .int) 2 gN) (I : e_I) (L : e_L) : Zo X (ph_i I L) (f_X7_troubleOfAfter_27 I) 27 [] [] I L := by
  unfold f_X7_troubleOfAfter_27
  refine zo_iconst (v := 1) hC (by decide) dX7_troubleOfAfter_27 ?_
  exact zo_iret hC rfl dX7_troubleOfAfter_28

def f_X7_troubleOfAfter_63 (I : e_I) (s0 : Int32) : Option (Int32) :=
  some s0
set_option maxRecDepth 100000 in
set_option maxHeartbeats 4000000 in
theorem Zf_X7_troubleOfAfter_63 {X : e_X} (hC : e_C X cX7_troubleOfAfter RX7 5 (some .int) 2 gN) (I : e_I) (L : e_L) (s0 : Int32) : Zo X (ph_i I L) (f_X7_troubleOfAfter_63 I s0) 63 [] [.int s0] I L := by
  unfold f_X7_troubleOfAfter_63
  exact zo_iret hC rfl dX7_troubleOfAfter_63

def f_X7_troubleOfAfter (v1 : Int32) (v2 : Int32) (v3 : Int32) (v4 : Int32) (I : e_I) : Option (Int32) :=
  e_b1 (f_X7_hasText I) (fun (r_1 : Int32) =>
  if r_1 = 0 then (
    f_X7_troubleOfAfter_27 I )
  else (
    e_b1 (f_X7_within v3 0 8) (fun (r_3 : Int32) =>
    if r_3 = 0 then (
      f_X7_troubleOfAfter_27 I )
    else (
      e_b1 (f_X7_within v4 0 2) (fun (r_5 : Int32) =>
      if r_5 ≠ 0 then (
        e_b1 (f_X7_isState v1 v2) (fun (r_7 : Int32) =>
        if r_7 ≠ 0 then (
          e_b1 (f_X7_stateOf v1 v2) (fun (r_9 : Int32) =>
          e_b1 (f_X2_can v3 r_9 I) (fun (r_10 : Int32) =>
          if r_10 = 0 then (
            f_X7_troubleOfAfter_63 I 5)
          else (
            f_X7_troubleOfAfter_63 I 0))))
        else (
          some 2)))
      else (
        f_X7_troubleOfAfter_27 I ))))))
set_option maxRecDepth 100000 in
set_option maxHeartbeats 4000000 in
theorem Zf_X7_troubleOfAfter {X : e_X} (hC : e_C X cX7_troubleOfAfter RX7 5 (some .int) 2 gN) (v1 : Int32) (v2 : Int32) (v3 : Int32) (v4 : Int32) (I : e_I) (L : e_L) : Zo X (ph_i I L) (f_X7_troubleOfAfter v1 v2 v3 v4 I) 0 [(0, .ref 0), (1, .int v1), (2, .int v2), (3, .int v3), (4, .int v4)] [] I L := by
  unfold f_X7_troubleOfAfter
  refine zo_aload_n hC dX7_troubleOfAfter_0 rfl 0 rfl ?_
  refine zo_callV_i hC (ci := 7) [] [] me_X7_hasText mlX7_110 im_X7_hasText se_X7_hasText rfl (by decide) at_0 (fun p hp => T_X7_hasText I L p hp) (by decide) rfl (Nat.le_of_ble_eq_true rfl) dX7_troubleOfAfter_1 rfl (fun r_1 => ?_)
  refine zo_if_eq (tgt := 27) hC dX7_troubleOfAfter_4 (by decide) (fun c_2 => ?_) (fun c_2 => ?_)
  · refine zo_sub [] (lv' := []) rfl ?_
    exact Zf_X7_troubleOfAfter_27 hC I L 
  · refine zo_iload_n hC dX7_troubleOfAfter_7 rfl 3 rfl ?_
    refine zo_iconst (v := 0) hC (by decide) dX7_troubleOfAfter_8 ?_
    refine zo_bipush (v := 8) hC (by decide) dX7_troubleOfAfter_9 ?_
    refine zo_callS_i hC [.int v3, .int 0, .int 8] [] me_X7_within mlX7_66 sm_X7_within (fun p hp => T_X7_within v3 0 8 I L p hp) (by decide) rfl (Nat.le_of_ble_eq_true rfl) dX7_troubleOfAfter_11 rfl (fun r_3 => ?_)
    refine zo_if_eq (tgt := 27) hC dX7_troubleOfAfter_14 (by decide) (fun c_4 => ?_) (fun c_4 => ?_)
    · refine zo_sub [] (lv' := []) rfl ?_
      exact Zf_X7_troubleOfAfter_27 hC I L 
    · refine zo_iload hC dX7_troubleOfAfter_17 4 rfl ?_
      refine zo_iconst (v := 0) hC (by decide) dX7_troubleOfAfter_19 ?_
      refine zo_iconst (v := 2) hC (by decide) dX7_troubleOfAfter_20 ?_
      refine zo_callS_i hC [.int v4, .int 0, .int 2] [] me_X7_within mlX7_66 sm_X7_within (fun p hp => T_X7_within v4 0 2 I L p hp) (by decide) rfl (Nat.le_of_ble_eq_true rfl) dX7_troubleOfAfter_21 rfl (fun r_5 => ?_)
      refine zo_if_ne (tgt := 29) hC dX7_troubleOfAfter_24 (by decide) (fun c_6 => ?_) (fun c_6 => ?_)
      · refine zo_iload_n hC dX7_troubleOfAfter_29 rfl 1 rfl ?_
        refine zo_iload_n hC dX7_troubleOfAfter_30 rfl 2 rfl ?_
        refine zo_callS_i hC [.int v1, .int v2] [] me_X7_isState mlX7_193 sm_X7_isState (fun p hp => T_X7_isState v1 v2 I L p hp) (by decide) rfl (Nat.le_of_ble_eq_true rfl) dX7_troubleOfAfter_31 rfl (fun r_7 => ?_)
        refine zo_if_ne (tgt := 39) hC dX7_troubleOfAfter_34 (by decide) (fun c_8 => ?_) (fun c_8 => ?_)
        · refine zo_aload_n hC dX7_troubleOfAfter_39 rfl 0 rfl ?_
          refine zo_getR hC (r := 11) fk7_40 (by decide) gr_0_5 at_0 dX7_troubleOfAfter_40 ?_
          refine zo_getR hC (r := 12) fk7_181 (by decide) gr_11_0 at_11 dX7_troubleOfAfter_43 ?_
          refine zo_iload_n hC dX7_troubleOfAfter_46 rfl 3 rfl ?_
          refine zo_iload_n hC dX7_troubleOfAfter_47 rfl 1 rfl ?_
          refine zo_iload_n hC dX7_troubleOfAfter_48 rfl 2 rfl ?_
          refine zo_callS_i hC [.int v1, .int v2] [.int v3, .ref 12] me_X7_stateOf mlX7_178 sm_X7_stateOf (fun p hp => T_X7_stateOf v1 v2 I L p hp) (by decide) rfl (Nat.le_of_ble_eq_true rfl) dX7_troubleOfAfter_49 rfl (fun r_9 => ?_)
          refine zo_callV_i hC (ci := 2) [.int v3, .int r_9] [] me_X2_can mlX7_197 im_X2_can se_X2_can rfl (by decide) at_12 (fun p hp => T_X2_can v3 r_9 I L p hp) (by decide) rfl (Nat.le_of_ble_eq_true rfl) dX7_troubleOfAfter_52 rfl (fun r_10 => ?_)
          refine zo_if_eq (tgt := 62) hC dX7_troubleOfAfter_55 (by decide) (fun c_11 => ?_) (fun c_11 => ?_)
          · refine zo_iconst (v := 5) hC (by decide) dX7_troubleOfAfter_62 ?_
            refine zo_sub [] (lv' := []) rfl ?_
            exact Zf_X7_troubleOfAfter_63 hC I L 5
          · refine zo_iconst (v := 0) hC (by decide) dX7_troubleOfAfter_58 ?_
            refine zo_goto (tgt := 63) hC dX7_troubleOfAfter_59 (by decide) ?_
            refine zo_sub [] (lv' := []) rfl ?_
            exact Zf_X7_troubleOfAfter_63 hC I L 0
        · refine zo_iconst (v := 2) hC (by decide) dX7_troubleOfAfter_37 ?_
          exact zo_iret hC rfl dX7_troubleOfAfter_38
      · refine zo_sub [] (lv' := []) rfl ?_
        exact Zf_X7_troubleOfAfter_27 hC I L 

theorem T_X7_troubleOfAfter (v1 : Int32) (v2 : Int32) (v3 : Int32) (v4 : Int32) (I : e_I) (L : e_L) (p : Int32) (hp : f_X7_troubleOfAfter v1 v2 v3 v4 I = some p) : Mt yX7_troubleOfAfter cX7_troubleOfAfter 5 (some .int) 2 gN [.ref 0, .int v1, .int v2, .int v3, .int v4] I L ((ph_i I L) p) := zo_enter hp (by decide) (Nat.le_of_ble_eq_true rfl) (fun X hC => Zf_X7_troubleOfAfter hC v1 v2 v3 v4 I L)
def f_X2_runsBy_35 (I : e_I) (s0 : Int32) : Option (Int32) :=
  some s0
set_option maxRecDepth 100000 in
set_option maxHeartbeats 4000000 in
theorem Zf_X2_runsBy_35 {X : e_X} (hC : e_C X cX2_runsBy RX2 3 (some .int) 0 gN) (I : e_I) (L : e_L) (s0 : Int32) : Zo X (ph_i I L) (f_X2_runsBy_35 I s0) 35 [] [.int s0] I L := by
  unfold f_X2_runsBy_35
  exact zo_iret hC rfl dX2_runsBy_35

def f_X2_runsBy_34 (I : e_I) : Option (Int32) :=
  f_X2_runsBy_35 I 0
set_option maxRecDepth 100000 in
set_option maxHeartbeats 4000000 in
theorem Zf_X2_runsBy_34 {X : e_X} (hC : e_C X cX2_runsBy RX2 3 (some .int) 0 gN) (I : e_I) (L : e_L) : Zo X (ph_i I L) (f_X2_runsBy_34 I) 34 [] [] I L := by
  unfold f_X2_runsBy_34
  refine zo_iconst (v := 0) hC (by decide) dX2_runsBy_34 ?_
  exact Zf_X2_runsBy_35 hC I L 0

def f_X2_runsBy (v1 : Int32) (v2 : Int32) (I : e_I) : Option (Int32) :=
  if v1 < 0 then (
    f_X2_runsBy_34 I )
  else (
    if v1 ≥ 9 then (
      f_X2_runsBy_34 I )
    else (
      if v2 < 0 then (
        f_X2_runsBy_34 I )
      else (
        if v2 ≥ 24 then (
          f_X2_runsBy_34 I )
        else (
          e_as (e_ix ((v1 * 24) + v2) 216 = true) (
          f_X2_runsBy_35 I (I 14 ((v1 * 24) + v2).toNatClampNeg))))))
set_option maxRecDepth 100000 in
set_option maxHeartbeats 4000000 in
theorem Zf_X2_runsBy {X : e_X} (hC : e_C X cX2_runsBy RX2 3 (some .int) 0 gN) (v1 : Int32) (v2 : Int32) (I : e_I) (L : e_L) : Zo X (ph_i I L) (f_X2_runsBy v1 v2 I) 0 [(0, .ref 12), (1, .int v1), (2, .int v2)] [] I L := by
  unfold f_X2_runsBy
  refine zo_iload_n hC dX2_runsBy_0 rfl 1 rfl ?_
  refine zo_if_lt (tgt := 34) hC dX2_runsBy_1 (by decide) (fun c_1 => ?_) (fun c_1 => ?_)
  · refine zo_sub [] (lv' := []) rfl ?_
    exact Zf_X2_runsBy_34 hC I L 
  · refine zo_iload_n hC dX2_runsBy_4 rfl 1 rfl ?_
    refine zo_bipush (v := 9) hC (by decide) dX2_runsBy_5 ?_
    refine zo_icmp_ge (tgt := 34) hC dX2_runsBy_7 (by decide) (fun c_2 => ?_) (fun c_2 => ?_)
    · refine zo_sub [] (lv' := []) rfl ?_
      exact Zf_X2_runsBy_34 hC I L 
    · refine zo_iload_n hC dX2_runsBy_10 rfl 2 rfl ?_
      refine zo_if_lt (tgt := 34) hC dX2_runsBy_11 (by decide) (fun c_3 => ?_) (fun c_3 => ?_)
      · refine zo_sub [] (lv' := []) rfl ?_
        exact Zf_X2_runsBy_34 hC I L 
      · refine zo_iload_n hC dX2_runsBy_14 rfl 2 rfl ?_
        refine zo_bipush (v := 24) hC (by decide) dX2_runsBy_15 ?_
        refine zo_icmp_ge (tgt := 34) hC dX2_runsBy_17 (by decide) (fun c_4 => ?_) (fun c_4 => ?_)
        · refine zo_sub [] (lv' := []) rfl ?_
          exact Zf_X2_runsBy_34 hC I L 
        · refine zo_aload_n hC dX2_runsBy_20 rfl 0 rfl ?_
          refine zo_getR hC (r := 14) fk2_15 (by decide) gr_12_1 at_12 dX2_runsBy_21 ?_
          refine zo_iload_n hC dX2_runsBy_24 rfl 1 rfl ?_
          refine zo_bipush (v := 24) hC (by decide) dX2_runsBy_25 ?_
          refine zo_imul hC dX2_runsBy_27 ?_
          refine zo_iload_n hC dX2_runsBy_28 rfl 2 rfl ?_
          refine zo_iadd hC dX2_runsBy_29 ?_
          refine zo_as (fun h_5 => ?_)
          refine zo_iald hC ar_14 (e_ix_vp h_5) dX2_runsBy_30 ?_
          refine zo_goto (tgt := 35) hC dX2_runsBy_31 (by decide) ?_
          refine zo_sub [] (lv' := []) rfl ?_
          exact Zf_X2_runsBy_35 hC I L (I 14 ((v1 * 24) + v2).toNatClampNeg)

theorem T_X2_runsBy (v1 : Int32) (v2 : Int32) (I : e_I) (L : e_L) (p : Int32) (hp : f_X2_runsBy v1 v2 I = some p) : Mt yX2_runsBy cX2_runsBy 3 (some .int) 0 gN [.ref 12, .int v1, .int v2] I L ((ph_i I L) p) := zo_enter hp (by decide) (Nat.le_of_ble_eq_true rfl) (fun X hC => Zf_X2_runsBy hC v1 v2 I L)
def f_X7_after (v1 : Int32) (v2 : Int32) (v3 : Int32) (v4 : Int32) (I : e_I) : Option (Int32 × e_I) :=
  e_b1 (f_X7_troubleOfAfter v1 v2 v3 v4 I) (fun (r_1 : Int32) =>
  e_b2 (f_X7_refused r_1 I) (fun (r_2 : Int32) (I_3 : e_I) =>
  if r_2 = 0 then (
    e_b1 (f_X7_stateOf v1 v2) (fun (r_5 : Int32) =>
    if v4 = 0 then (
      e_b1 (f_X2_behind v3 r_5 I_3) (fun (r_7 : Int32) =>
      e_b1 (f_X7_basesOf r_7) (fun (r_8 : Int32) =>
      some (r_8, I_3))))
    else (
    if v4 = 1 then (
      e_b1 (f_X2_behind v3 r_5 I_3) (fun (r_10 : Int32) =>
      e_b1 (f_X7_outsOf r_10) (fun (r_11 : Int32) =>
      some (r_11, I_3))))
    else (
    e_b1 (f_X2_runsBy v3 r_5 I_3) (fun (r_12 : Int32) =>
    some (r_12, I_3))))))
  else (
    some ((-1), I_3))))
set_option maxRecDepth 100000 in
set_option maxHeartbeats 4000000 in
theorem Zf_X7_after {X : e_X} (hC : e_C X cX7_after RX7 6 (some .int) 3 gN) (v1 : Int32) (v2 : Int32) (v3 : Int32) (v4 : Int32) (I : e_I) (L : e_L) : Zo X (ph_iI L) (f_X7_after v1 v2 v3 v4 I) 0 [(0, .ref 0), (1, .int v1), (2, .int v2), (3, .int v3), (4, .int v4)] [] I L := by
  unfold f_X7_after
  refine zo_aload_n hC dX7_after_0 rfl 0 rfl ?_
  refine zo_aload_n hC dX7_after_1 rfl 0 rfl ?_
  refine zo_iload_n hC dX7_after_2 rfl 1 rfl ?_
  refine zo_iload_n hC dX7_after_3 rfl 2 rfl ?_
  refine zo_iload_n hC dX7_after_4 rfl 3 rfl ?_
  refine zo_iload hC dX7_after_5 4 rfl ?_
  refine zo_callV_i hC (ci := 7) [.int v1, .int v2, .int v3, .int v4] [.ref 0] me_X7_troubleOfAfter mlX7_174 im_X7_troubleOfAfter se_X7_troubleOfAfter rfl (by decide) at_0 (fun p hp => T_X7_troubleOfAfter v1 v2 v3 v4 I L p hp) (by decide) rfl (Nat.le_of_ble_eq_true rfl) dX7_after_7 rfl (fun r_1 => ?_)
  refine zo_callV_iI hC (ci := 7) [.int r_1] [] me_X7_refused mlX7_70 im_X7_refused se_X7_refused rfl (by decide) at_0 (fun p hp => T_X7_refused r_1 I L p hp) (by decide) rfl (Nat.le_of_ble_eq_true rfl) dX7_after_10 rfl (fun r_2 I_3 => ?_)
  refine zo_if_eq (tgt := 18) hC dX7_after_13 (by decide) (fun c_4 => ?_) (fun c_4 => ?_)
  · refine zo_iload_n hC dX7_after_18 rfl 1 rfl ?_
    refine zo_iload_n hC dX7_after_19 rfl 2 rfl ?_
    refine zo_callS_i hC [.int v1, .int v2] [] me_X7_stateOf mlX7_178 sm_X7_stateOf (fun p hp => T_X7_stateOf v1 v2 I_3 L p hp) (by decide) rfl (Nat.le_of_ble_eq_true rfl) dX7_after_20 rfl (fun r_5 => ?_)
    refine zo_istore (lv' := [(5, .int r_5), (0, .ref 0), (1, .int v1), (2, .int v2), (3, .int v3), (4, .int v4)]) hC dX7_after_23 (by decide) rfl ?_
    refine zo_iload hC dX7_after_25 5 rfl ?_
    refine zo_ite (fun c_6 => ?_) (fun c_6 => ?_)
    · refine zo_lsw (tgt := 52) hC dX7_after_27 (by decide) (by first | (rw [c_6]; done) | (rw [c_6]; rfl)) (by decide) ?_
      refine zo_aload_n hC dX7_after_52 rfl 1 rfl ?_
      refine zo_getR hC (r := 11) fk7_40 (by decide) gr_0_5 at_0 dX7_after_53 ?_
      refine zo_getR hC (r := 12) fk7_181 (by decide) gr_11_0 at_11 dX7_after_56 ?_
      refine zo_iload_n hC dX7_after_59 rfl 4 rfl ?_
      refine zo_iload hC dX7_after_60 0 rfl ?_
      refine zo_callV_i hC (ci := 2) [.int v3, .int r_5] [] me_X2_behind mlX7_185 im_X2_behind se_X2_behind rfl (by decide) at_12 (fun p hp => T_X2_behind v3 r_5 I_3 L p hp) (by decide) rfl (Nat.le_of_ble_eq_true rfl) dX7_after_62 rfl (fun r_7 => ?_)
      refine zo_callS_i hC [.int r_7] [] me_X7_basesOf mlX7_120 sm_X7_basesOf (fun p hp => T_X7_basesOf r_7 I_3 L p hp) (by decide) rfl (Nat.le_of_ble_eq_true rfl) dX7_after_65 rfl (fun r_8 => ?_)
      exact zo_iret hC rfl dX7_after_68
    refine zo_ite (fun c_9 => ?_) (fun c_9 => ?_)
    · refine zo_lsw (tgt := 69) hC dX7_after_27 (by decide) (by first | (rw [c_9]; done) | (rw [c_9]; rfl)) (by decide) ?_
      refine zo_aload_n hC dX7_after_69 rfl 1 rfl ?_
      refine zo_getR hC (r := 11) fk7_40 (by decide) gr_0_5 at_0 dX7_after_70 ?_
      refine zo_getR hC (r := 12) fk7_181 (by decide) gr_11_0 at_11 dX7_after_73 ?_
      refine zo_iload_n hC dX7_after_76 rfl 4 rfl ?_
      refine zo_iload hC dX7_after_77 0 rfl ?_
      refine zo_callV_i hC (ci := 2) [.int v3, .int r_5] [] me_X2_behind mlX7_185 im_X2_behind se_X2_behind rfl (by decide) at_12 (fun p hp => T_X2_behind v3 r_5 I_3 L p hp) (by decide) rfl (Nat.le_of_ble_eq_true rfl) dX7_after_79 rfl (fun r_10 => ?_)
      refine zo_callS_i hC [.int r_10] [] me_X7_outsOf mlX7_123 sm_X7_outsOf (fun p hp => T_X7_outsOf r_10 I_3 L p hp) (by decide) rfl (Nat.le_of_ble_eq_true rfl) dX7_after_82 rfl (fun r_11 => ?_)
      exact zo_iret hC rfl dX7_after_85
    refine zo_lsw (tgt := 86) hC dX7_after_27 (by decide) (e_lsw_out2 c_6 c_9) (by decide) ?_
    refine zo_aload_n hC dX7_after_86 rfl 1 rfl ?_
    refine zo_getR hC (r := 11) fk7_40 (by decide) gr_0_5 at_0 dX7_after_87 ?_
    refine zo_getR hC (r := 12) fk7_181 (by decide) gr_11_0 at_11 dX7_after_90 ?_
    refine zo_iload_n hC dX7_after_93 rfl 4 rfl ?_
    refine zo_iload hC dX7_after_94 0 rfl ?_
    refine zo_callV_i hC (ci := 2) [.int v3, .int r_5] [] me_X2_runsBy mlX7_190 im_X2_runsBy se_X2_runsBy rfl (by decide) at_12 (fun p hp => T_X2_runsBy v3 r_5 I_3 L p hp) (by decide) rfl (Nat.le_of_ble_eq_true rfl) dX7_after_96 rfl (fun r_12 => ?_)
    exact zo_iret hC rfl dX7_after_99
  · refine zo_iconst (v := (-1)) hC (by decide) dX7_after_16 ?_
    exact zo_iret hC rfl dX7_after_17

theorem T_X7_after (v1 : Int32) (v2 : Int32) (v3 : Int32) (v4 : Int32) (I : e_I) (L : e_L) (p : Int32 × e_I) (hp : f_X7_after v1 v2 v3 v4 I = some p) : Mt yX7_after cX7_after 6 (some .int) 3 gN [.ref 0, .int v1, .int v2, .int v3, .int v4] I L ((ph_iI L) p) := zo_enter hp (by decide) (Nat.le_of_ble_eq_true rfl) (fun X hC => Zf_X7_after hC v1 v2 v3 v4 I L)
def f_X7_isPart (v0 : Int32) : Option (Int32) :=
  e_b1 (f_X7_within v0 0 1) (fun (r_1 : Int32) =>
  e_as (r_1 = 0 ∨ r_1 = 1) (
  some r_1))
set_option maxRecDepth 100000 in
set_option maxHeartbeats 4000000 in
theorem Zf_X7_isPart {X : e_X} (hC : e_C X cX7_isPart RX7 1 (some .boolean) 1 gN) (v0 : Int32) (I : e_I) (L : e_L) : Zo X (ph_i I L) (f_X7_isPart v0) 0 [(0, .int v0)] [] I L := by
  unfold f_X7_isPart
  refine zo_iload_n hC dX7_isPart_0 rfl 0 rfl ?_
  refine zo_iconst (v := 0) hC (by decide) dX7_isPart_1 ?_
  refine zo_iconst (v := 1) hC (by decide) dX7_isPart_2 ?_
  refine zo_callS_i hC [.int v0, .int 0, .int 1] [] me_X7_within mlX7_66 sm_X7_within (fun p hp => T_X7_within v0 0 1 I L p hp) (by decide) rfl (Nat.le_of_ble_eq_true rfl) dX7_isPart_3 rfl (fun r_1 => ?_)
  refine zo_as (fun h_2 => ?_)
  exact zo_zret hC h_2 rfl dX7_isPart_6

theorem T_X7_isPart (v0 : Int32) (I : e_I) (L : e_L) (p : Int32) (hp : f_X7_isPart v0 = some p) : Mt yX7_isPart cX7_isPart 1 (some .boolean) 1 gN [.int v0] I L ((ph_i I L) p) := zo_enter hp (by decide) (Nat.le_of_ble_eq_true rfl) (fun X hC => Zf_X7_isPart hC v0 I L)
def f_X7_commonDivisor_3 (k32 : Int64 → Option (Int64)) : Nat → Int64 → Int64 → Int32 → Option (Int64)
  | 0, _, _, _ => none
  | n + 1, v0, v2, v4 =>
    if v4 ≥ 100 then (
      k32 v0)
    else (
      if (lg_cmp v2 0) = 0 then (
        k32 v0)
      else (
        e_as (¬ v2 = 0) (
        e_let (e_rml v0 v2) (fun (x_4 : Int64) =>
        e_let (v4 + 1) (fun (x_5 : Int32) =>
        f_X7_commonDivisor_3 k32 n v2 x_4 x_5)))))
set_option maxRecDepth 100000 in
set_option maxHeartbeats 4000000 in
theorem Zf_X7_commonDivisor_3 {X : e_X} (hC : e_C X cX7_commonDivisor RX7 7 (some .long) 0 gN) (I : e_I) (L : e_L) (k32 : Int64 → Option (Int64)) (hk32 : ∀ (v0 : Int64), Zo X (ph_l I L) (k32 v0) 32 [(0, .long v0)] [] I L) : ∀ (n : Nat) (v0 : Int64) (v2 : Int64) (v4 : Int32), Zo X (ph_l I L) (f_X7_commonDivisor_3 k32 n v0 v2 v4) 3 [(0, .long v0), (2, .long v2), (4, .int v4)] [] I L := by
  intro n
  induction n with
  | zero => intro v0 v2 v4 p hp; cases hp
  | succ n ih =>
    intro v0 v2 v4
    unfold f_X7_commonDivisor_3
    refine zo_iload hC dX7_commonDivisor_3 2 rfl ?_
    refine zo_bipush (v := 100) hC (by decide) dX7_commonDivisor_5 ?_
    refine zo_icmp_ge (tgt := 32) hC dX7_commonDivisor_7 (by decide) (fun c_1 => ?_) (fun c_1 => ?_)
    · refine zo_sub [0] (lv' := [(0, .long v0)]) rfl ?_
      exact hk32 v0
    · refine zo_lload_n hC dX7_commonDivisor_10 rfl 1 rfl ?_
      refine zo_lconst (v := 0) hC (by decide) dX7_commonDivisor_11 ?_
      refine zo_lcmp hC dX7_commonDivisor_12 ?_
      refine zo_if_eq (tgt := 32) hC dX7_commonDivisor_13 (by decide) (fun c_2 => ?_) (fun c_2 => ?_)
      · refine zo_sub [0] (lv' := [(0, .long v0)]) rfl ?_
        exact hk32 v0
      · refine zo_lload_n hC dX7_commonDivisor_16 rfl 0 rfl ?_
        refine zo_lload_n hC dX7_commonDivisor_17 rfl 1 rfl ?_
        refine zo_as (fun h_3 => ?_)
        refine zo_lrem_ hC h_3 dX7_commonDivisor_18 ?_
        refine zo_topl (fun x_4 => ?_)
        refine zo_lstore (lv' := [(5, .long x_4), (0, .long v0), (2, .long v2), (4, .int v4)]) hC dX7_commonDivisor_19 (by decide) rfl ?_
        refine zo_lload_n hC dX7_commonDivisor_21 rfl 2 rfl ?_
        refine zo_lstore_n (lv' := [(0, .long v2), (5, .long x_4), (2, .long v2), (4, .int v4)]) hC dX7_commonDivisor_22 rfl (by decide) rfl ?_
        refine zo_lload hC dX7_commonDivisor_23 1 rfl ?_
        refine zo_lstore_n (lv' := [(2, .long x_4), (0, .long v2), (5, .long x_4), (4, .int v4)]) hC dX7_commonDivisor_25 rfl (by decide) rfl ?_
        refine zo_iinc hC (x := v4) (fun x_5 => [(4, .int x_5), (2, .long x_4), (0, .long v2), (5, .long x_4)]) dX7_commonDivisor_26 3 rfl (by rfl) (by decide) (fun _ => rfl) (fun x_5 => ?_)
        refine zo_goto (tgt := 3) hC dX7_commonDivisor_29 (by decide) ?_
        refine zo_sub [2, 1, 0] (lv' := [(0, .long v2), (2, .long x_4), (4, .int x_5)]) rfl ?_
        exact ih v2 x_4 x_5

def f_X7_commonDivisor (v0 : Int64) (v2 : Int64) : Option (Int64) :=
  f_X7_commonDivisor_3 (fun (v0_1 : Int64) =>
    some v0_1) e_FU v0 v2 0
set_option maxRecDepth 100000 in
set_option maxHeartbeats 4000000 in
theorem Zf_X7_commonDivisor {X : e_X} (hC : e_C X cX7_commonDivisor RX7 7 (some .long) 0 gN) (v0 : Int64) (v2 : Int64) (I : e_I) (L : e_L) : Zo X (ph_l I L) (f_X7_commonDivisor v0 v2) 0 [(0, .long v0), (2, .long v2)] [] I L := by
  unfold f_X7_commonDivisor
  refine zo_iconst (v := 0) hC (by decide) dX7_commonDivisor_0 ?_
  refine zo_istore (lv' := [(4, .int 0), (0, .long v0), (2, .long v2)]) hC dX7_commonDivisor_1 (by decide) rfl ?_
  refine zo_sub [1, 2, 0] (lv' := [(0, .long v0), (2, .long v2), (4, .int 0)]) rfl ?_
  refine Zf_X7_commonDivisor_3 hC I L _ (fun v0_1 => ?_) e_FU v0 v2 0
  · refine zo_lload_n hC dX7_commonDivisor_32 rfl 0 rfl ?_
    exact zo_lret hC rfl dX7_commonDivisor_33

theorem T_X7_commonDivisor (v0 : Int64) (v2 : Int64) (I : e_I) (L : e_L) (p : Int64) (hp : f_X7_commonDivisor v0 v2 = some p) : Mt yX7_commonDivisor cX7_commonDivisor 7 (some .long) 0 gN [.long v0, .long v2] I L ((ph_l I L) p) := zo_enter hp (by decide) (Nat.le_of_ble_eq_true rfl) (fun X hC => Zf_X7_commonDivisor hC v0 v2 I L)
def f_X7_part_44 (s0 : Int64) : Option (Int64) :=
  some s0
set_option maxRecDepth 100000 in
set_option maxHeartbeats 4000000 in
theorem Zf_X7_part_44 {X : e_X} (hC : e_C X cX7_part RX7 7 (some .long) 1 gN) (I : e_I) (L : e_L) (s0 : Int64) : Zo X (ph_l I L) (f_X7_part_44 s0) 44 [] [.long s0] I L := by
  unfold f_X7_part_44
  exact zo_lret hC rfl dX7_part_44

def f_X7_part_41 (v5 : Int64) (s0 : Int64) : Option (Int64) :=
  e_as (¬ v5 = 0) (
  f_X7_part_44 (s0 / v5))
set_option maxRecDepth 100000 in
set_option maxHeartbeats 4000000 in
theorem Zf_X7_part_41 {X : e_X} (hC : e_C X cX7_part RX7 7 (some .long) 1 gN) (I : e_I) (L : e_L) (v5 : Int64) (s0 : Int64) : Zo X (ph_l I L) (f_X7_part_41 v5 s0) 41 [(5, .long v5)] [.long s0] I L := by
  unfold f_X7_part_41
  refine zo_lload hC dX7_part_41 0 rfl ?_
  refine zo_as (fun h_1 => ?_)
  refine zo_ldiv hC h_1 dX7_part_43 ?_
  refine zo_sub [] (lv' := []) rfl ?_
  exact Zf_X7_part_44 hC I L (s0 / v5)

def f_X7_part_12 (v0 : Int64) (v2 : Int64) (v4 : Int32) (s0 : Int64) : Option (Int64) :=
  e_b1 (f_X7_commonDivisor s0 v2) (fun (r_1 : Int64) =>
  if (lg_cmp r_1 0) ≠ 0 then (
    if v4 ≠ 0 then (
      f_X7_part_41 r_1 v2)
    else (
      f_X7_part_41 r_1 v0))
  else (
    f_X7_part_44 (-1)))
set_option maxRecDepth 100000 in
set_option maxHeartbeats 4000000 in
theorem Zf_X7_part_12 {X : e_X} (hC : e_C X cX7_part RX7 7 (some .long) 1 gN) (I : e_I) (L : e_L) (v0 : Int64) (v2 : Int64) (v4 : Int32) (s0 : Int64) : Zo X (ph_l I L) (f_X7_part_12 v0 v2 v4 s0) 12 [(0, .long v0), (2, .long v2), (4, .int v4)] [.long s0] I L := by
  unfold f_X7_part_12
  refine zo_lload_n hC dX7_part_12 rfl 1 rfl ?_
  refine zo_callS_l hC [.long s0, .long v2] [] me_X7_commonDivisor mlX7_365 sm_X7_commonDivisor (fun p hp => T_X7_commonDivisor s0 v2 I L p hp) (by decide) rfl (Nat.le_of_ble_eq_true rfl) dX7_part_13 rfl (fun r_1 => ?_)
  refine zo_lstore (lv' := [(5, .long r_1), (0, .long v0), (2, .long v2), (4, .int v4)]) hC dX7_part_16 (by decide) rfl ?_
  refine zo_lload hC dX7_part_18 0 rfl ?_
  refine zo_lconst (v := 0) hC (by decide) dX7_part_20 ?_
  refine zo_lcmp hC dX7_part_21 ?_
  refine zo_if_ne (tgt := 31) hC dX7_part_22 (by decide) (fun c_2 => ?_) (fun c_2 => ?_)
  · refine zo_iload hC dX7_part_31 3 rfl ?_
    refine zo_if_ne (tgt := 40) hC dX7_part_33 (by decide) (fun c_3 => ?_) (fun c_3 => ?_)
    · refine zo_lload_n hC dX7_part_40 rfl 2 rfl ?_
      refine zo_sub [0] (lv' := [(5, .long r_1)]) rfl ?_
      exact Zf_X7_part_41 hC I L r_1 v2
    · refine zo_lload_n hC dX7_part_36 rfl 1 rfl ?_
      refine zo_goto (tgt := 41) hC dX7_part_37 (by decide) ?_
      refine zo_sub [0] (lv' := [(5, .long r_1)]) rfl ?_
      exact Zf_X7_part_41 hC I L r_1 v0
  · refine zo_ldc2 (v := (-1)) hC clX7_207 dX7_part_25 ?_
    refine zo_goto (tgt := 44) hC dX7_part_28 (by decide) ?_
    refine zo_sub [] (lv' := []) rfl ?_
    exact Zf_X7_part_44 hC I L (-1)

def f_X7_part (v0 : Int64) (v2 : Int64) (v4 : Int32) : Option (Int64) :=
  if (lg_cmp v0 0) ≥ 0 then (
    f_X7_part_12 v0 v2 v4 v0)
  else (
    f_X7_part_12 v0 v2 v4 (-v0))
set_option maxRecDepth 100000 in
set_option maxHeartbeats 4000000 in
theorem Zf_X7_part {X : e_X} (hC : e_C X cX7_part RX7 7 (some .long) 1 gN) (v0 : Int64) (v2 : Int64) (v4 : Int32) (I : e_I) (L : e_L) : Zo X (ph_l I L) (f_X7_part v0 v2 v4) 0 [(0, .long v0), (2, .long v2), (4, .int v4)] [] I L := by
  unfold f_X7_part
  refine zo_lload_n hC dX7_part_0 rfl 0 rfl ?_
  refine zo_lconst (v := 0) hC (by decide) dX7_part_1 ?_
  refine zo_lcmp hC dX7_part_2 ?_
  refine zo_if_ge (tgt := 11) hC dX7_part_3 (by decide) (fun c_1 => ?_) (fun c_1 => ?_)
  · refine zo_lload_n hC dX7_part_11 rfl 0 rfl ?_
    exact Zf_X7_part_12 hC I L v0 v2 v4 v0
  · refine zo_lload_n hC dX7_part_6 rfl 0 rfl ?_
    refine zo_lneg hC dX7_part_7 ?_
    refine zo_goto (tgt := 12) hC dX7_part_8 (by decide) ?_
    exact Zf_X7_part_12 hC I L v0 v2 v4 (-v0)

theorem T_X7_part (v0 : Int64) (v2 : Int64) (v4 : Int32) (I : e_I) (L : e_L) (p : Int64) (hp : f_X7_part v0 v2 v4 = some p) : Mt yX7_part cX7_part 7 (some .long) 1 gN [.long v0, .long v2, .int v4] I L ((ph_l I L) p) := zo_enter hp (by decide) (Nat.le_of_ble_eq_true rfl) (fun X hC => Zf_X7_part hC v0 v2 v4 I L)
def f_X7_isDepth (v0 : Int32) : Option (Int32) :=
  e_b1 (f_X7_within v0 1 5) (fun (r_1 : Int32) =>
  e_as (r_1 = 0 ∨ r_1 = 1) (
  some r_1))
set_option maxRecDepth 100000 in
set_option maxHeartbeats 4000000 in
theorem Zf_X7_isDepth {X : e_X} (hC : e_C X cX7_isDepth RX7 1 (some .boolean) 1 gN) (v0 : Int32) (I : e_I) (L : e_L) : Zo X (ph_i I L) (f_X7_isDepth v0) 0 [(0, .int v0)] [] I L := by
  unfold f_X7_isDepth
  refine zo_iload_n hC dX7_isDepth_0 rfl 0 rfl ?_
  refine zo_iconst (v := 1) hC (by decide) dX7_isDepth_1 ?_
  refine zo_iconst (v := 5) hC (by decide) dX7_isDepth_2 ?_
  refine zo_callS_i hC [.int v0, .int 1, .int 5] [] me_X7_within mlX7_66 sm_X7_within (fun p hp => T_X7_within v0 1 5 I L p hp) (by decide) rfl (Nat.le_of_ble_eq_true rfl) dX7_isDepth_3 rfl (fun r_1 => ?_)
  refine zo_as (fun h_2 => ?_)
  exact zo_zret hC h_2 rfl dX7_isDepth_6

theorem T_X7_isDepth (v0 : Int32) (I : e_I) (L : e_L) (p : Int32) (hp : f_X7_isDepth v0 = some p) : Mt yX7_isDepth cX7_isDepth 1 (some .boolean) 1 gN [.int v0] I L ((ph_i I L) p) := zo_enter hp (by decide) (Nat.le_of_ble_eq_true rfl) (fun X hC => Zf_X7_isDepth hC v0 I L)
def f_X7_troubleAhead_11 (I : e_I) : Option (Int32) :=
  some 1
set_option maxRecDepth 100000 in
set_option maxHeartbeats 4000000 in
theorem Zf_X7_troubleAhead_11 {X : e_X} (hC : e_C X cX7_troubleAhead RX7 5 (some .int) 2 gN) (I : e_I) (L : e_L) : Zo X (ph_i I L) (f_X7_troubleAhead_11 I) 11 [] [] I L := by
  unfold f_X7_troubleAhead_11
  refine zo_iconst (v := 1) hC (by decide) dX7_troubleAhead_11 ?_
  exact zo_iret hC rfl dX7_troubleAhead_12

def f_X7_troubleAhead_34 (I : e_I) (s0 : Int32) : Option (Int32) :=
  some s0
set_option maxRecDepth 100000 in
set_option maxHeartbeats 4000000 in
theorem Zf_X7_troubleAhead_34 {X : e_X} (hC : e_C X cX7_troubleAhead RX7 5 (some .int) 2 gN) (I : e_I) (L : e_L) (s0 : Int32) : Zo X (ph_i I L) (f_X7_troubleAhead_34 I s0) 34 [] [.int s0] I L := by
  unfold f_X7_troubleAhead_34
  exact zo_iret hC rfl dX7_troubleAhead_34

def f_X7_troubleAhead_33 (I : e_I) : Option (Int32) :=
  f_X7_troubleAhead_34 I 2
set_option maxRecDepth 100000 in
set_option maxHeartbeats 4000000 in
theorem Zf_X7_troubleAhead_33 {X : e_X} (hC : e_C X cX7_troubleAhead RX7 5 (some .int) 2 gN) (I : e_I) (L : e_L) : Zo X (ph_i I L) (f_X7_troubleAhead_33 I) 33 [] [] I L := by
  unfold f_X7_troubleAhead_33
  refine zo_iconst (v := 2) hC (by decide) dX7_troubleAhead_33 ?_
  exact Zf_X7_troubleAhead_34 hC I L 2

def f_X7_troubleAhead (v1 : Int32) (v2 : Int32) (v3 : Int32) (v4 : Int32) (I : e_I) : Option (Int32) :=
  e_b1 (f_X7_hasText I) (fun (r_1 : Int32) =>
  if r_1 = 0 then (
    f_X7_troubleAhead_11 I )
  else (
    if v1 ≠ 0 then (
      e_b1 (f_X7_isState v2 v3) (fun (r_4 : Int32) =>
      if r_4 = 0 then (
        f_X7_troubleAhead_33 I )
      else (
        e_b1 (f_X7_isDepth v4) (fun (r_6 : Int32) =>
        if r_6 = 0 then (
          f_X7_troubleAhead_33 I )
        else (
          f_X7_troubleAhead_34 I 0)))))
    else (
      f_X7_troubleAhead_11 I )))
set_option maxRecDepth 100000 in
set_option maxHeartbeats 4000000 in
theorem Zf_X7_troubleAhead {X : e_X} (hC : e_C X cX7_troubleAhead RX7 5 (some .int) 2 gN) (v1 : Int32) (v2 : Int32) (v3 : Int32) (v4 : Int32) (I : e_I) (L : e_L) : Zo X (ph_i I L) (f_X7_troubleAhead v1 v2 v3 v4 I) 0 [(0, .ref 0), (1, .int v1), (2, .int v2), (3, .int v3), (4, .int v4)] [] I L := by
  unfold f_X7_troubleAhead
  refine zo_aload_n hC dX7_troubleAhead_0 rfl 0 rfl ?_
  refine zo_callV_i hC (ci := 7) [] [] me_X7_hasText mlX7_110 im_X7_hasText se_X7_hasText rfl (by decide) at_0 (fun p hp => T_X7_hasText I L p hp) (by decide) rfl (Nat.le_of_ble_eq_true rfl) dX7_troubleAhead_1 rfl (fun r_1 => ?_)
  refine zo_if_eq (tgt := 11) hC dX7_troubleAhead_4 (by decide) (fun c_2 => ?_) (fun c_2 => ?_)
  · refine zo_sub [] (lv' := []) rfl ?_
    exact Zf_X7_troubleAhead_11 hC I L 
  · refine zo_iload_n hC dX7_troubleAhead_7 rfl 1 rfl ?_
    refine zo_if_ne (tgt := 13) hC dX7_troubleAhead_8 (by decide) (fun c_3 => ?_) (fun c_3 => ?_)
    · refine zo_iload_n hC dX7_troubleAhead_13 rfl 2 rfl ?_
      refine zo_iload_n hC dX7_troubleAhead_14 rfl 3 rfl ?_
      refine zo_callS_i hC [.int v2, .int v3] [] me_X7_isState mlX7_193 sm_X7_isState (fun p hp => T_X7_isState v2 v3 I L p hp) (by decide) rfl (Nat.le_of_ble_eq_true rfl) dX7_troubleAhead_15 rfl (fun r_4 => ?_)
      refine zo_if_eq (tgt := 33) hC dX7_troubleAhead_18 (by decide) (fun c_5 => ?_) (fun c_5 => ?_)
      · refine zo_sub [] (lv' := []) rfl ?_
        exact Zf_X7_troubleAhead_33 hC I L 
      · refine zo_iload hC dX7_troubleAhead_21 4 rfl ?_
        refine zo_callS_i hC [.int v4] [] me_X7_isDepth mlX7_246 sm_X7_isDepth (fun p hp => T_X7_isDepth v4 I L p hp) (by decide) rfl (Nat.le_of_ble_eq_true rfl) dX7_troubleAhead_23 rfl (fun r_6 => ?_)
        refine zo_if_eq (tgt := 33) hC dX7_troubleAhead_26 (by decide) (fun c_7 => ?_) (fun c_7 => ?_)
        · refine zo_sub [] (lv' := []) rfl ?_
          exact Zf_X7_troubleAhead_33 hC I L 
        · refine zo_iconst (v := 0) hC (by decide) dX7_troubleAhead_29 ?_
          refine zo_goto (tgt := 34) hC dX7_troubleAhead_30 (by decide) ?_
          refine zo_sub [] (lv' := []) rfl ?_
          exact Zf_X7_troubleAhead_34 hC I L 0
    · refine zo_sub [] (lv' := []) rfl ?_
      exact Zf_X7_troubleAhead_11 hC I L 

theorem T_X7_troubleAhead (v1 : Int32) (v2 : Int32) (v3 : Int32) (v4 : Int32) (I : e_I) (L : e_L) (p : Int32) (hp : f_X7_troubleAhead v1 v2 v3 v4 I = some p) : Mt yX7_troubleAhead cX7_troubleAhead 5 (some .int) 2 gN [.ref 0, .int v1, .int v2, .int v3, .int v4] I L ((ph_i I L) p) := zo_enter hp (by decide) (Nat.le_of_ble_eq_true rfl) (fun X hC => Zf_X7_troubleAhead hC v1 v2 v3 v4 I L)
def f_X1_gain_19 (I : e_I) (L : e_L) : Option (Int64) :=
  some 0
set_option maxRecDepth 100000 in
set_option maxHeartbeats 4000000 in
theorem Zf_X1_gain_19 {X : e_X} (hC : e_C X cX1_gain RX1 4 (some .long) 0 gN) (I : e_I) (L : e_L) : Zo X (ph_l I L) (f_X1_gain_19 I L) 19 [] [] I L := by
  unfold f_X1_gain_19
  refine zo_lconst (v := 0) hC (by decide) dX1_gain_19 ?_
  exact zo_lret hC rfl dX1_gain_20

def f_X1_gain_62 (I : e_I) (L : e_L) (s0 : Int64) : Option (Int64) :=
  some s0
set_option maxRecDepth 100000 in
set_option maxHeartbeats 4000000 in
theorem Zf_X1_gain_62 {X : e_X} (hC : e_C X cX1_gain RX1 4 (some .long) 0 gN) (I : e_I) (L : e_L) (s0 : Int64) : Zo X (ph_l I L) (f_X1_gain_62 I L s0) 62 [] [.long s0] I L := by
  unfold f_X1_gain_62
  exact zo_lret hC rfl dX1_gain_62

def f_X1_gain_41 (I : e_I) (L : e_L) (v1 : Int32) (v2 : Int32) (v3 : Int32) : Option (Int64) :=
  e_as (e_ix v1 6 = true) (
  e_as (e_ix ((v1 * 25) + v3) 150 = true) (
  f_X1_gain_62 I L ((v2.toInt64 * (L 16 v1.toNatClampNeg)) + (L 15 ((v1 * 25) + v3).toNatClampNeg))))
set_option maxRecDepth 100000 in
set_option maxHeartbeats 4000000 in
theorem Zf_X1_gain_41 {X : e_X} (hC : e_C X cX1_gain RX1 4 (some .long) 0 gN) (I : e_I) (L : e_L) (v1 : Int32) (v2 : Int32) (v3 : Int32) : Zo X (ph_l I L) (f_X1_gain_41 I L v1 v2 v3) 41 [(0, .ref 11), (1, .int v1), (2, .int v2), (3, .int v3)] [] I L := by
  unfold f_X1_gain_41
  refine zo_iload_n hC dX1_gain_41 rfl 2 rfl ?_
  refine zo_i2l hC dX1_gain_42 ?_
  refine zo_aload_n hC dX1_gain_43 rfl 0 rfl ?_
  refine zo_getR hC (r := 16) fk1_22 (by decide) gr_11_2 at_11 dX1_gain_44 ?_
  refine zo_iload_n hC dX1_gain_47 rfl 1 rfl ?_
  refine zo_as (fun h_1 => ?_)
  refine zo_lald hC ar_16 (e_ix_vp h_1) dX1_gain_48 ?_
  refine zo_lmul hC dX1_gain_49 ?_
  refine zo_aload_n hC dX1_gain_50 rfl 0 rfl ?_
  refine zo_getR hC (r := 15) fk1_18 (by decide) gr_11_1 at_11 dX1_gain_51 ?_
  refine zo_iload_n hC dX1_gain_54 rfl 1 rfl ?_
  refine zo_bipush (v := 25) hC (by decide) dX1_gain_55 ?_
  refine zo_imul hC dX1_gain_57 ?_
  refine zo_iload_n hC dX1_gain_58 rfl 3 rfl ?_
  refine zo_iadd hC dX1_gain_59 ?_
  refine zo_as (fun h_2 => ?_)
  refine zo_lald hC ar_15 (e_ix_vp h_2) dX1_gain_60 ?_
  refine zo_ladd hC dX1_gain_61 ?_
  refine zo_sub [] (lv' := []) rfl ?_
  exact Zf_X1_gain_62 hC I L ((v2.toInt64 * (L 16 v1.toNatClampNeg)) + (L 15 ((v1 * 25) + v3).toNatClampNeg))

def f_X1_gain (v1 : Int32) (v2 : Int32) (v3 : Int32) (I : e_I) (L : e_L) : Option (Int64) :=
  if v1 < 0 then (
    f_X1_gain_19 I L )
  else (
    if v1 > 5 then (
      f_X1_gain_19 I L )
    else (
      if v3 < 0 then (
        f_X1_gain_19 I L )
      else (
        if v3 ≤ 24 then (
          if (I 11 5) = 0 then (
            f_X1_gain_41 I L v1 v2 v3)
          else (
            if v2 ≤ 0 then (
              f_X1_gain_41 I L v1 v2 v3)
            else (
              e_as (e_ix v1 6 = true) (
              f_X1_gain_62 I L (L 16 v1.toNatClampNeg)))))
        else (
          f_X1_gain_19 I L ))))
set_option maxRecDepth 100000 in
set_option maxHeartbeats 4000000 in
theorem Zf_X1_gain {X : e_X} (hC : e_C X cX1_gain RX1 4 (some .long) 0 gN) (v1 : Int32) (v2 : Int32) (v3 : Int32) (I : e_I) (L : e_L) : Zo X (ph_l I L) (f_X1_gain v1 v2 v3 I L) 0 [(0, .ref 11), (1, .int v1), (2, .int v2), (3, .int v3)] [] I L := by
  unfold f_X1_gain
  refine zo_iload_n hC dX1_gain_0 rfl 1 rfl ?_
  refine zo_if_lt (tgt := 19) hC dX1_gain_1 (by decide) (fun c_1 => ?_) (fun c_1 => ?_)
  · refine zo_sub [] (lv' := []) rfl ?_
    exact Zf_X1_gain_19 hC I L 
  · refine zo_iload_n hC dX1_gain_4 rfl 1 rfl ?_
    refine zo_iconst (v := 5) hC (by decide) dX1_gain_5 ?_
    refine zo_icmp_gt (tgt := 19) hC dX1_gain_6 (by decide) (fun c_2 => ?_) (fun c_2 => ?_)
    · refine zo_sub [] (lv' := []) rfl ?_
      exact Zf_X1_gain_19 hC I L 
    · refine zo_iload_n hC dX1_gain_9 rfl 3 rfl ?_
      refine zo_if_lt (tgt := 19) hC dX1_gain_10 (by decide) (fun c_3 => ?_) (fun c_3 => ?_)
      · refine zo_sub [] (lv' := []) rfl ?_
        exact Zf_X1_gain_19 hC I L 
      · refine zo_iload_n hC dX1_gain_13 rfl 3 rfl ?_
        refine zo_bipush (v := 24) hC (by decide) dX1_gain_14 ?_
        refine zo_icmp_le (tgt := 21) hC dX1_gain_16 (by decide) (fun c_4 => ?_) (fun c_4 => ?_)
        · refine zo_aload_n hC dX1_gain_21 rfl 0 rfl ?_
          refine zo_getZ hC fk1_67 at_11 dX1_gain_22 ?_
          refine zo_if_eq (tgt := 41) hC dX1_gain_25 (by decide) (fun c_5 => ?_) (fun c_5 => ?_)
          · exact Zf_X1_gain_41 hC I L v1 v2 v3
          · refine zo_iload_n hC dX1_gain_28 rfl 2 rfl ?_
            refine zo_if_le (tgt := 41) hC dX1_gain_29 (by decide) (fun c_6 => ?_) (fun c_6 => ?_)
            · exact Zf_X1_gain_41 hC I L v1 v2 v3
            · refine zo_aload_n hC dX1_gain_32 rfl 0 rfl ?_
              refine zo_getR hC (r := 16) fk1_22 (by decide) gr_11_2 at_11 dX1_gain_33 ?_
              refine zo_iload_n hC dX1_gain_36 rfl 1 rfl ?_
              refine zo_as (fun h_7 => ?_)
              refine zo_lald hC ar_16 (e_ix_vp h_7) dX1_gain_37 ?_
              refine zo_goto (tgt := 62) hC dX1_gain_38 (by decide) ?_
              refine zo_sub [] (lv' := []) rfl ?_
              exact Zf_X1_gain_62 hC I L (L 16 v1.toNatClampNeg)
        · refine zo_sub [] (lv' := []) rfl ?_
          exact Zf_X1_gain_19 hC I L 

theorem T_X1_gain (v1 : Int32) (v2 : Int32) (v3 : Int32) (I : e_I) (L : e_L) (p : Int64) (hp : f_X1_gain v1 v2 v3 I L = some p) : Mt yX1_gain cX1_gain 4 (some .long) 0 gN [.ref 11, .int v1, .int v2, .int v3] I L ((ph_l I L) p) := zo_enter hp (by decide) (Nat.le_of_ble_eq_true rfl) (fun X hC => Zf_X1_gain hC v1 v2 v3 I L)
def f_X1_hitMean_10 (I : e_I) (L : e_L) : Option (Int64) :=
  some 0
set_option maxRecDepth 100000 in
set_option maxHeartbeats 4000000 in
theorem Zf_X1_hitMean_10 {X : e_X} (hC : e_C X cX1_hitMean RX1 7 (some .long) 1 gN) (I : e_I) (L : e_L) : Zo X (ph_l I L) (f_X1_hitMean_10 I L) 10 [] [] I L := by
  unfold f_X1_hitMean_10
  refine zo_lconst (v := 0) hC (by decide) dX1_hitMean_10 ?_
  exact zo_lret hC rfl dX1_hitMean_11

def f_X1_hitMean_80 (I : e_I) (L : e_L) (v1 : Int32) (v2 : Int32) (k17 : Int64 → Int32 → Option (Int64)) (k86 : Int64 → Option (Int64)) (v3 : Int64) (v5 : Int32) : Option (Int64) :=
  e_let (v5 + 1) (fun (x_1 : Int32) =>
  k17 v3 x_1)
set_option maxRecDepth 100000 in
set_option maxHeartbeats 4000000 in
theorem Zf_X1_hitMean_80 {X : e_X} (hC : e_C X cX1_hitMean RX1 7 (some .long) 1 gN) (I : e_I) (L : e_L) (v1 : Int32) (v2 : Int32) (k17 : Int64 → Int32 → Option (Int64)) (k86 : Int64 → Option (Int64)) (hk17 : ∀ (v3 : Int64) (v5 : Int32), Zo X (ph_l I L) (k17 v3 v5) 17 [(0, .ref 11), (1, .int v1), (2, .int v2), (3, .long v3), (5, .int v5)] [] I L) (hk86 : ∀ (v3 : Int64), Zo X (ph_l I L) (k86 v3) 86 [(3, .long v3)] [] I L) (v3 : Int64) (v5 : Int32) : Zo X (ph_l I L) (f_X1_hitMean_80 I L v1 v2 k17 k86 v3 v5) 80 [(0, .ref 11), (1, .int v1), (2, .int v2), (3, .long v3), (5, .int v5)] [] I L := by
  unfold f_X1_hitMean_80
  refine zo_iinc hC (x := v5) (fun x_1 => [(5, .int x_1), (0, .ref 11), (1, .int v1), (2, .int v2), (3, .long v3)]) dX1_hitMean_80 4 rfl (by rfl) (by decide) (fun _ => rfl) (fun x_1 => ?_)
  refine zo_goto (tgt := 17) hC dX1_hitMean_83 (by decide) ?_
  refine zo_sub [1, 2, 3, 4, 0] (lv' := [(0, .ref 11), (1, .int v1), (2, .int v2), (3, .long v3), (5, .int x_1)]) rfl ?_
  exact hk17 v3 x_1

def f_X1_hitMean_17 (I : e_I) (L : e_L) (v1 : Int32) (v2 : Int32) (k86 : Int64 → Option (Int64)) : Nat → Int64 → Int32 → Option (Int64)
  | 0, _, _ => none
  | n + 1, v3, v5 =>
    if v5 ≥ 6 then (
      k86 v3)
    else (
      e_as (e_ix v5 6 = true) (
      if (I 17 v5.toNatClampNeg) ≤ 0 then (
        f_X1_hitMean_80 I L v1 v2 (fun v3 v5 => f_X1_hitMean_17 I L v1 v2 k86 n v3 v5) k86 v3 v5)
      else (
        e_let ((v5 * 24) + v2) (fun (x_4 : Int32) =>
        e_as (e_ix v5 6 = true) (
        e_as (e_ix x_4 216 = true) (
        e_as (e_ix x_4 216 = true) (
        e_b1 (f_X1_gain v1 (I 14 x_4.toNatClampNeg) (I 13 x_4.toNatClampNeg) I L) (fun (r_8 : Int64) =>
        e_let (v3 + (((I 17 v5.toNatClampNeg).toInt64) * r_8)) (fun (x_9 : Int64) =>
        f_X1_hitMean_80 I L v1 v2 (fun v3 v5 => f_X1_hitMean_17 I L v1 v2 k86 n v3 v5) k86 x_9 v5)))))))))
set_option maxRecDepth 100000 in
set_option maxHeartbeats 4000000 in
theorem Zf_X1_hitMean_17 {X : e_X} (hC : e_C X cX1_hitMean RX1 7 (some .long) 1 gN) (I : e_I) (L : e_L) (v1 : Int32) (v2 : Int32) (k86 : Int64 → Option (Int64)) (hk86 : ∀ (v3 : Int64), Zo X (ph_l I L) (k86 v3) 86 [(3, .long v3)] [] I L) : ∀ (n : Nat) (v3 : Int64) (v5 : Int32), Zo X (ph_l I L) (f_X1_hitMean_17 I L v1 v2 k86 n v3 v5) 17 [(0, .ref 11), (1, .int v1), (2, .int v2), (3, .long v3), (5, .int v5)] [] I L := by
  intro n
  induction n with
  | zero => intro v3 v5 p hp; cases hp
  | succ n ih =>
    intro v3 v5
    unfold f_X1_hitMean_17
    refine zo_iload hC dX1_hitMean_17 4 rfl ?_
    refine zo_bipush (v := 6) hC (by decide) dX1_hitMean_19 ?_
    refine zo_icmp_ge (tgt := 86) hC dX1_hitMean_21 (by decide) (fun c_1 => ?_) (fun c_1 => ?_)
    · refine zo_sub [3] (lv' := [(3, .long v3)]) rfl ?_
      exact hk86 v3
    · refine zo_aload_n hC dX1_hitMean_24 rfl 0 rfl ?_
      refine zo_getR hC (r := 17) fk1_25 (by decide) gr_11_3 at_11 dX1_hitMean_25 ?_
      refine zo_iload hC dX1_hitMean_28 4 rfl ?_
      refine zo_as (fun h_2 => ?_)
      refine zo_iald hC ar_17 (e_ix_vp h_2) dX1_hitMean_30 ?_
      refine zo_if_le (tgt := 80) hC dX1_hitMean_31 (by decide) (fun c_3 => ?_) (fun c_3 => ?_)
      · exact Zf_X1_hitMean_80 hC I L v1 v2 (fun v3 v5 => f_X1_hitMean_17 I L v1 v2 k86 n v3 v5) k86 (fun v3 v5 => ih v3 v5) hk86 v3 v5
      · refine zo_iload hC dX1_hitMean_34 4 rfl ?_
        refine zo_bipush (v := 24) hC (by decide) dX1_hitMean_36 ?_
        refine zo_imul hC dX1_hitMean_38 ?_
        refine zo_iload_n hC dX1_hitMean_39 rfl 2 rfl ?_
        refine zo_iadd hC dX1_hitMean_40 ?_
        refine zo_topi (fun x_4 => ?_)
        refine zo_istore (lv' := [(6, .int x_4), (0, .ref 11), (1, .int v1), (2, .int v2), (3, .long v3), (5, .int v5)]) hC dX1_hitMean_41 (by decide) rfl ?_
        refine zo_lload_n hC dX1_hitMean_43 rfl 4 rfl ?_
        refine zo_aload_n hC dX1_hitMean_44 rfl 1 rfl ?_
        refine zo_getR hC (r := 17) fk1_25 (by decide) gr_11_3 at_11 dX1_hitMean_45 ?_
        refine zo_iload hC dX1_hitMean_48 5 rfl ?_
        refine zo_as (fun h_5 => ?_)
        refine zo_iald hC ar_17 (e_ix_vp h_5) dX1_hitMean_50 ?_
        refine zo_i2l hC dX1_hitMean_51 ?_
        refine zo_aload_n hC dX1_hitMean_52 rfl 1 rfl ?_
        refine zo_iload_n hC dX1_hitMean_53 rfl 2 rfl ?_
        refine zo_aload_n hC dX1_hitMean_54 rfl 1 rfl ?_
        refine zo_getR hC (r := 12) fk1_12 (by decide) gr_11_0 at_11 dX1_hitMean_55 ?_
        refine zo_getR hC (r := 14) fk1_89 (by decide) gr_12_1 at_12 dX1_hitMean_58 ?_
        refine zo_iload hC dX1_hitMean_61 0 rfl ?_
        refine zo_as (fun h_6 => ?_)
        refine zo_iald hC ar_14 (e_ix_vp h_6) dX1_hitMean_63 ?_
        refine zo_aload_n hC dX1_hitMean_64 rfl 1 rfl ?_
        refine zo_getR hC (r := 12) fk1_12 (by decide) gr_11_0 at_11 dX1_hitMean_65 ?_
        refine zo_getR hC (r := 13) fk1_92 (by decide) gr_12_0 at_12 dX1_hitMean_68 ?_
        refine zo_iload hC dX1_hitMean_71 0 rfl ?_
        refine zo_as (fun h_7 => ?_)
        refine zo_iald hC ar_13 (e_ix_vp h_7) dX1_hitMean_73 ?_
        refine zo_callV_l hC (ci := 1) [.int v1, .int (I 14 x_4.toNatClampNeg), .int (I 13 x_4.toNatClampNeg)] [.long ((I 17 v5.toNatClampNeg).toInt64), .long v3] me_X1_gain mlX1_95 im_X1_gain se_X1_gain rfl (by decide) at_11 (fun p hp => T_X1_gain v1 (I 14 x_4.toNatClampNeg) (I 13 x_4.toNatClampNeg) I L p hp) (by decide) rfl (Nat.le_of_ble_eq_true rfl) dX1_hitMean_74 rfl (fun r_8 => ?_)
        refine zo_lmul hC dX1_hitMean_77 ?_
        refine zo_ladd hC dX1_hitMean_78 ?_
        refine zo_topl (fun x_9 => ?_)
        refine zo_lstore_n (lv' := [(3, .long x_9), (6, .int x_4), (0, .ref 11), (1, .int v1), (2, .int v2), (5, .int v5)]) hC dX1_hitMean_79 rfl (by decide) rfl ?_
        refine zo_sub [2, 3, 4, 0, 5] (lv' := [(0, .ref 11), (1, .int v1), (2, .int v2), (3, .long x_9), (5, .int v5)]) rfl ?_
        exact Zf_X1_hitMean_80 hC I L v1 v2 (fun v3 v5 => f_X1_hitMean_17 I L v1 v2 k86 n v3 v5) k86 (fun v3 v5 => ih v3 v5) hk86 x_9 v5

def f_X1_hitMean (v1 : Int32) (v2 : Int32) (I : e_I) (L : e_L) : Option (Int64) :=
  if v2 < 0 then (
    f_X1_hitMean_10 I L )
  else (
    if v2 < 24 then (
      f_X1_hitMean_17 I L v1 v2 (fun (v3_3 : Int64) =>
        some v3_3) e_FU 0 0)
    else (
      f_X1_hitMean_10 I L ))
set_option maxRecDepth 100000 in
set_option maxHeartbeats 4000000 in
theorem Zf_X1_hitMean {X : e_X} (hC : e_C X cX1_hitMean RX1 7 (some .long) 1 gN) (v1 : Int32) (v2 : Int32) (I : e_I) (L : e_L) : Zo X (ph_l I L) (f_X1_hitMean v1 v2 I L) 0 [(0, .ref 11), (1, .int v1), (2, .int v2)] [] I L := by
  unfold f_X1_hitMean
  refine zo_iload_n hC dX1_hitMean_0 rfl 2 rfl ?_
  refine zo_if_lt (tgt := 10) hC dX1_hitMean_1 (by decide) (fun c_1 => ?_) (fun c_1 => ?_)
  · refine zo_sub [] (lv' := []) rfl ?_
    exact Zf_X1_hitMean_10 hC I L 
  · refine zo_iload_n hC dX1_hitMean_4 rfl 2 rfl ?_
    refine zo_bipush (v := 24) hC (by decide) dX1_hitMean_5 ?_
    refine zo_icmp_lt (tgt := 12) hC dX1_hitMean_7 (by decide) (fun c_2 => ?_) (fun c_2 => ?_)
    · refine zo_lconst (v := 0) hC (by decide) dX1_hitMean_12 ?_
      refine zo_lstore_n (lv' := [(3, .long 0), (0, .ref 11), (1, .int v1), (2, .int v2)]) hC dX1_hitMean_13 rfl (by decide) rfl ?_
      refine zo_iconst (v := 0) hC (by decide) dX1_hitMean_14 ?_
      refine zo_istore (lv' := [(5, .int 0), (3, .long 0), (0, .ref 11), (1, .int v1), (2, .int v2)]) hC dX1_hitMean_15 (by decide) rfl ?_
      refine zo_sub [2, 3, 4, 1, 0] (lv' := [(0, .ref 11), (1, .int v1), (2, .int v2), (3, .long 0), (5, .int 0)]) rfl ?_
      refine Zf_X1_hitMean_17 hC I L v1 v2 _ (fun v3_3 => ?_) e_FU 0 0
      · refine zo_lload_n hC dX1_hitMean_86 rfl 0 rfl ?_
        exact zo_lret hC rfl dX1_hitMean_87
    · refine zo_sub [] (lv' := []) rfl ?_
      exact Zf_X1_hitMean_10 hC I L 

theorem T_X1_hitMean (v1 : Int32) (v2 : Int32) (I : e_I) (L : e_L) (p : Int64) (hp : f_X1_hitMean v1 v2 I L = some p) : Mt yX1_hitMean cX1_hitMean 7 (some .long) 1 gN [.ref 11, .int v1, .int v2] I L ((ph_l I L) p) := zo_enter hp (by decide) (Nat.le_of_ble_eq_true rfl) (fun X hC => Zf_X1_hitMean hC v1 v2 I L)
