def f_X8_thrown (I : e_I) : Option (Int32) :=
  some (I 83 0)
set_option maxRecDepth 100000 in
set_option maxHeartbeats 4000000 in
theorem Zf_X8_thrown {X : e_X} (hC : e_C X cX8_thrown RX8 1 (some .int) 0 gN) (I : e_I) (L : e_L) : Zo X (ph_i I L) (f_X8_thrown I) 0 [(0, .ref 83)] [] I L := by
  unfold f_X8_thrown
  refine zo_aload_n hC dX8_thrown_0 rfl 0 rfl ?_
  refine zo_getI hC fk8_54 at_83 dX8_thrown_1 ?_
  exact zo_iret hC rfl dX8_thrown_4

theorem T_X8_thrown (I : e_I) (L : e_L) (p : Int32) (hp : f_X8_thrown I = some p) : Mt yX8_thrown cX8_thrown 1 (some .int) 0 gN [.ref 83] I L ((ph_i I L) p) := zo_enter hp (by decide) (Nat.le_of_ble_eq_true rfl) (fun X hC => Zf_X8_thrown hC I L)
def f_X8_in_15 (s0 : Int32) : Option (Int32) :=
  e_as (s0 = 0 ∨ s0 = 1) (
  some s0)
set_option maxRecDepth 100000 in
set_option maxHeartbeats 4000000 in
theorem Zf_X8_in_15 {X : e_X} (hC : e_C X cX8_in RX8 3 (some .boolean) 0 gN) (I : e_I) (L : e_L) (s0 : Int32) : Zo X (ph_i I L) (f_X8_in_15 s0) 15 [] [.int s0] I L := by
  unfold f_X8_in_15
  refine zo_as (fun h_1 => ?_)
  exact zo_zret hC h_1 rfl dX8_in_15

def f_X8_in_14 : Option (Int32) :=
  f_X8_in_15 0
set_option maxRecDepth 100000 in
set_option maxHeartbeats 4000000 in
theorem Zf_X8_in_14 {X : e_X} (hC : e_C X cX8_in RX8 3 (some .boolean) 0 gN) (I : e_I) (L : e_L) : Zo X (ph_i I L) (f_X8_in_14) 14 [] [] I L := by
  unfold f_X8_in_14
  refine zo_iconst (v := 0) hC (by decide) dX8_in_14 ?_
  exact Zf_X8_in_15 hC I L 0

def f_X8_in (v0 : Int32) (v1 : Int32) (v2 : Int32) : Option (Int32) :=
  if v0 < v1 then (
    f_X8_in_14 )
  else (
    if v0 > v2 then (
      f_X8_in_14 )
    else (
      f_X8_in_15 1))
set_option maxRecDepth 100000 in
set_option maxHeartbeats 4000000 in
theorem Zf_X8_in {X : e_X} (hC : e_C X cX8_in RX8 3 (some .boolean) 0 gN) (v0 : Int32) (v1 : Int32) (v2 : Int32) (I : e_I) (L : e_L) : Zo X (ph_i I L) (f_X8_in v0 v1 v2) 0 [(0, .int v0), (1, .int v1), (2, .int v2)] [] I L := by
  unfold f_X8_in
  refine zo_iload_n hC dX8_in_0 rfl 0 rfl ?_
  refine zo_iload_n hC dX8_in_1 rfl 1 rfl ?_
  refine zo_icmp_lt (tgt := 14) hC dX8_in_2 (by decide) (fun c_1 => ?_) (fun c_1 => ?_)
  · refine zo_sub [] (lv' := []) rfl ?_
    exact Zf_X8_in_14 hC I L 
  · refine zo_iload_n hC dX8_in_5 rfl 0 rfl ?_
    refine zo_iload_n hC dX8_in_6 rfl 2 rfl ?_
    refine zo_icmp_gt (tgt := 14) hC dX8_in_7 (by decide) (fun c_2 => ?_) (fun c_2 => ?_)
    · refine zo_sub [] (lv' := []) rfl ?_
      exact Zf_X8_in_14 hC I L 
    · refine zo_iconst (v := 1) hC (by decide) dX8_in_10 ?_
      refine zo_goto (tgt := 15) hC dX8_in_11 (by decide) ?_
      refine zo_sub [] (lv' := []) rfl ?_
      exact Zf_X8_in_15 hC I L 1

theorem T_X8_in (v0 : Int32) (v1 : Int32) (v2 : Int32) (I : e_I) (L : e_L) (p : Int32) (hp : f_X8_in v0 v1 v2 = some p) : Mt yX8_in cX8_in 3 (some .boolean) 0 gN [.int v0, .int v1, .int v2] I L ((ph_i I L) p) := zo_enter hp (by decide) (Nat.le_of_ble_eq_true rfl) (fun X hC => Zf_X8_in hC v0 v1 v2 I L)
def f_X8_no (v1 : Int32) (I : e_I) : Option (Int32 × e_I) :=
  e_let (e_ui I 83 1 v1) (fun (I_1 : e_I) =>
  some ((-1), I_1))
set_option maxRecDepth 100000 in
set_option maxHeartbeats 4000000 in
theorem Zf_X8_no {X : e_X} (hC : e_C X cX8_no RX8 2 (some .int) 0 gN) (v1 : Int32) (I : e_I) (L : e_L) : Zo X (ph_iI L) (f_X8_no v1 I) 0 [(0, .ref 83), (1, .int v1)] [] I L := by
  unfold f_X8_no
  refine zo_aload_n hC dX8_no_0 rfl 0 rfl ?_
  refine zo_iload_n hC dX8_no_1 rfl 1 rfl ?_
  refine zo_putI hC fk8_57 ff8_1 at_83 dX8_no_2 ?_
  refine zo_topI (fun I_1 => ?_)
  refine zo_iconst (v := (-1)) hC (by decide) dX8_no_5 ?_
  exact zo_iret hC rfl dX8_no_6

theorem T_X8_no (v1 : Int32) (I : e_I) (L : e_L) (p : Int32 × e_I) (hp : f_X8_no v1 I = some p) : Mt yX8_no cX8_no 2 (some .int) 0 gN [.ref 83, .int v1] I L ((ph_iI L) p) := zo_enter hp (by decide) (Nat.le_of_ble_eq_true rfl) (fun X hC => Zf_X8_no hC v1 I L)
def f_X8_isRefused_24 (s0 : Int32) (I : e_I) : Option (Int32 × e_I) :=
  e_as (s0 = 0 ∨ s0 = 1) (
  some (s0, I))
set_option maxRecDepth 100000 in
set_option maxHeartbeats 4000000 in
theorem Zf_X8_isRefused_24 {X : e_X} (hC : e_C X cX8_isRefused RX8 2 (some .boolean) 0 gN) (L : e_L) (s0 : Int32) (I : e_I) : Zo X (ph_iI L) (f_X8_isRefused_24 s0 I) 24 [] [.int s0] I L := by
  unfold f_X8_isRefused_24
  refine zo_as (fun h_1 => ?_)
  exact zo_zret hC h_1 rfl dX8_isRefused_24

def f_X8_isRefused (v1 : Int32) (I : e_I) : Option (Int32 × e_I) :=
  e_let (e_ui I 83 0 0) (fun (I_1 : e_I) =>
  e_let (e_ui I_1 83 3 (-1)) (fun (I_2 : e_I) =>
  e_let (e_ui I_2 83 1 v1) (fun (I_3 : e_I) =>
  if v1 = 0 then (
    f_X8_isRefused_24 0 I_3)
  else (
    f_X8_isRefused_24 1 I_3))))
set_option maxRecDepth 100000 in
set_option maxHeartbeats 4000000 in
theorem Zf_X8_isRefused {X : e_X} (hC : e_C X cX8_isRefused RX8 2 (some .boolean) 0 gN) (v1 : Int32) (I : e_I) (L : e_L) : Zo X (ph_iI L) (f_X8_isRefused v1 I) 0 [(0, .ref 83), (1, .int v1)] [] I L := by
  unfold f_X8_isRefused
  refine zo_aload_n hC dX8_isRefused_0 rfl 0 rfl ?_
  refine zo_iconst (v := 0) hC (by decide) dX8_isRefused_1 ?_
  refine zo_putI hC fk8_54 ff8_0 at_83 dX8_isRefused_2 ?_
  refine zo_topI (fun I_1 => ?_)
  refine zo_aload_n hC dX8_isRefused_5 rfl 0 rfl ?_
  refine zo_iconst (v := (-1)) hC (by decide) dX8_isRefused_6 ?_
  refine zo_putI hC fk8_9 ff8_3 at_83 dX8_isRefused_7 ?_
  refine zo_topI (fun I_2 => ?_)
  refine zo_aload_n hC dX8_isRefused_10 rfl 0 rfl ?_
  refine zo_iload_n hC dX8_isRefused_11 rfl 1 rfl ?_
  refine zo_putI hC fk8_57 ff8_1 at_83 dX8_isRefused_12 ?_
  refine zo_topI (fun I_3 => ?_)
  refine zo_iload_n hC dX8_isRefused_15 rfl 1 rfl ?_
  refine zo_if_eq (tgt := 23) hC dX8_isRefused_16 (by decide) (fun c_4 => ?_) (fun c_4 => ?_)
  · refine zo_iconst (v := 0) hC (by decide) dX8_isRefused_23 ?_
    refine zo_sub [] (lv' := []) rfl ?_
    exact Zf_X8_isRefused_24 hC L 0 I_3
  · refine zo_iconst (v := 1) hC (by decide) dX8_isRefused_19 ?_
    refine zo_goto (tgt := 24) hC dX8_isRefused_20 (by decide) ?_
    refine zo_sub [] (lv' := []) rfl ?_
    exact Zf_X8_isRefused_24 hC L 1 I_3

theorem T_X8_isRefused (v1 : Int32) (I : e_I) (L : e_L) (p : Int32 × e_I) (hp : f_X8_isRefused v1 I = some p) : Mt yX8_isRefused cX8_isRefused 2 (some .boolean) 0 gN [.ref 83, .int v1] I L ((ph_iI L) p) := zo_enter hp (by decide) (Nat.le_of_ble_eq_true rfl) (fun X hC => Zf_X8_isRefused hC v1 I L)
def f_X8_unless_9 (s0 : Int32) : Option (Int32) :=
  some s0
set_option maxRecDepth 100000 in
set_option maxHeartbeats 4000000 in
theorem Zf_X8_unless_9 {X : e_X} (hC : e_C X cX8_unless RX8 1 (some .int) 0 gN) (I : e_I) (L : e_L) (s0 : Int32) : Zo X (ph_i I L) (f_X8_unless_9 s0) 9 [] [.int s0] I L := by
  unfold f_X8_unless_9
  exact zo_iret hC rfl dX8_unless_9

def f_X8_unless (v0 : Int32) : Option (Int32) :=
  if v0 = 0 then (
    f_X8_unless_9 1)
  else (
    f_X8_unless_9 0)
set_option maxRecDepth 100000 in
set_option maxHeartbeats 4000000 in
theorem Zf_X8_unless {X : e_X} (hC : e_C X cX8_unless RX8 1 (some .int) 0 gN) (v0 : Int32) (I : e_I) (L : e_L) : Zo X (ph_i I L) (f_X8_unless v0) 0 [(0, .int v0)] [] I L := by
  unfold f_X8_unless
  refine zo_iload_n hC dX8_unless_0 rfl 0 rfl ?_
  refine zo_if_eq (tgt := 8) hC dX8_unless_1 (by decide) (fun c_1 => ?_) (fun c_1 => ?_)
  · refine zo_iconst (v := 1) hC (by decide) dX8_unless_8 ?_
    refine zo_sub [] (lv' := []) rfl ?_
    exact Zf_X8_unless_9 hC I L 1
  · refine zo_iconst (v := 0) hC (by decide) dX8_unless_4 ?_
    refine zo_goto (tgt := 9) hC dX8_unless_5 (by decide) ?_
    refine zo_sub [] (lv' := []) rfl ?_
    exact Zf_X8_unless_9 hC I L 0

theorem T_X8_unless (v0 : Int32) (I : e_I) (L : e_L) (p : Int32) (hp : f_X8_unless v0 = some p) : Mt yX8_unless cX8_unless 1 (some .int) 0 gN [.int v0] I L ((ph_i I L) p) := zo_enter hp (by decide) (Nat.le_of_ble_eq_true rfl) (fun X hC => Zf_X8_unless hC v0 I L)
def f_X8_unless__17 (s0 : Int32) : Option (Int32) :=
  some s0
set_option maxRecDepth 100000 in
set_option maxHeartbeats 4000000 in
theorem Zf_X8_unless__17 {X : e_X} (hC : e_C X cX8_unless_ RX8 2 (some .int) 0 gN) (I : e_I) (L : e_L) (s0 : Int32) : Zo X (ph_i I L) (f_X8_unless__17 s0) 17 [] [.int s0] I L := by
  unfold f_X8_unless__17
  exact zo_iret hC rfl dX8_unless__17

def f_X8_unless_ (v0 : Int32) (v1 : Int32) : Option (Int32) :=
  if v0 ≠ 0 then (
    if v1 = 0 then (
      f_X8_unless__17 2)
    else (
      f_X8_unless__17 0))
  else (
    f_X8_unless__17 1)
set_option maxRecDepth 100000 in
set_option maxHeartbeats 4000000 in
theorem Zf_X8_unless_ {X : e_X} (hC : e_C X cX8_unless_ RX8 2 (some .int) 0 gN) (v0 : Int32) (v1 : Int32) (I : e_I) (L : e_L) : Zo X (ph_i I L) (f_X8_unless_ v0 v1) 0 [(0, .int v0), (1, .int v1)] [] I L := by
  unfold f_X8_unless_
  refine zo_iload_n hC dX8_unless__0 rfl 0 rfl ?_
  refine zo_if_ne (tgt := 8) hC dX8_unless__1 (by decide) (fun c_1 => ?_) (fun c_1 => ?_)
  · refine zo_iload_n hC dX8_unless__8 rfl 1 rfl ?_
    refine zo_if_eq (tgt := 16) hC dX8_unless__9 (by decide) (fun c_2 => ?_) (fun c_2 => ?_)
    · refine zo_iconst (v := 2) hC (by decide) dX8_unless__16 ?_
      refine zo_sub [] (lv' := []) rfl ?_
      exact Zf_X8_unless__17 hC I L 2
    · refine zo_iconst (v := 0) hC (by decide) dX8_unless__12 ?_
      refine zo_goto (tgt := 17) hC dX8_unless__13 (by decide) ?_
      refine zo_sub [] (lv' := []) rfl ?_
      exact Zf_X8_unless__17 hC I L 0
  · refine zo_iconst (v := 1) hC (by decide) dX8_unless__4 ?_
    refine zo_goto (tgt := 17) hC dX8_unless__5 (by decide) ?_
    refine zo_sub [] (lv' := []) rfl ?_
    exact Zf_X8_unless__17 hC I L 1

theorem T_X8_unless_ (v0 : Int32) (v1 : Int32) (I : e_I) (L : e_L) (p : Int32) (hp : f_X8_unless_ v0 v1 = some p) : Mt yX8_unless_ cX8_unless_ 2 (some .int) 0 gN [.int v0, .int v1] I L ((ph_i I L) p) := zo_enter hp (by decide) (Nat.le_of_ble_eq_true rfl) (fun X hC => Zf_X8_unless_ hC v0 v1 I L)
def f_X8_laysWord_2 (v1 : Int32) (k37 : e_I → Option (e_I)) : Nat → Int32 → e_I → Option (e_I)
  | 0, _, _ => none
  | n + 1, v2, I =>
    if v2 ≥ 4 then (
      k37 I)
    else (
      e_as (e_ix ((I 83 5) + v2) 500 = true) (
      e_let (e_ui I 84 ((I 83 5) + v2).toNatClampNeg ((v1 >>> (((24 : Int32) - ((8 : Int32) * v2)) &&& 31)) &&& 255)) (fun (I_3 : e_I) =>
      e_let (v2 + 1) (fun (x_4 : Int32) =>
      f_X8_laysWord_2 v1 k37 n x_4 I_3))))
set_option maxRecDepth 100000 in
set_option maxHeartbeats 4000000 in
theorem Zf_X8_laysWord_2 {X : e_X} (hC : e_C X cX8_laysWord RX8 3 none 0 gN) (L : e_L) (v1 : Int32) (k37 : e_I → Option (e_I)) (hk37 : ∀ (I : e_I), Zo X (ph_vI L) (k37 I) 37 [(0, .ref 83)] [] I L) : ∀ (n : Nat) (v2 : Int32) (I : e_I), Zo X (ph_vI L) (f_X8_laysWord_2 v1 k37 n v2 I) 2 [(0, .ref 83), (1, .int v1), (2, .int v2)] [] I L := by
  intro n
  induction n with
  | zero => intro v2 I p hp; cases hp
  | succ n ih =>
    intro v2 I
    unfold f_X8_laysWord_2
    refine zo_iload_n hC dX8_laysWord_2 rfl 2 rfl ?_
    refine zo_iconst (v := 4) hC (by decide) dX8_laysWord_3 ?_
    refine zo_icmp_ge (tgt := 37) hC dX8_laysWord_4 (by decide) (fun c_1 => ?_) (fun c_1 => ?_)
    · refine zo_sub [0] (lv' := [(0, .ref 83)]) rfl ?_
      exact hk37 I
    · refine zo_aload_n hC dX8_laysWord_7 rfl 0 rfl ?_
      refine zo_getR hC (r := 84) fk8_13 (by decide) gr_83_4 at_83 dX8_laysWord_8 ?_
      refine zo_aload_n hC dX8_laysWord_11 rfl 0 rfl ?_
      refine zo_getI hC fk8_60 at_83 dX8_laysWord_12 ?_
      refine zo_iload_n hC dX8_laysWord_15 rfl 2 rfl ?_
      refine zo_iadd hC dX8_laysWord_16 ?_
      refine zo_iload_n hC dX8_laysWord_17 rfl 1 rfl ?_
      refine zo_bipush (v := 24) hC (by decide) dX8_laysWord_18 ?_
      refine zo_bipush (v := 8) hC (by decide) dX8_laysWord_20 ?_
      refine zo_iload_n hC dX8_laysWord_22 rfl 2 rfl ?_
      refine zo_imul hC dX8_laysWord_23 ?_
      refine zo_isub hC dX8_laysWord_24 ?_
      refine zo_ishr hC dX8_laysWord_25 ?_
      refine zo_sipush (v := 255) hC (by decide) dX8_laysWord_26 ?_
      refine zo_iand hC dX8_laysWord_29 ?_
      refine zo_as (fun h_2 => ?_)
      refine zo_iast hC ar_84 (e_ix_vp h_2) dX8_laysWord_30 ?_
      refine zo_topI (fun I_3 => ?_)
      refine zo_iinc hC (x := v2) (fun x_4 => [(2, .int x_4), (0, .ref 83), (1, .int v1)]) dX8_laysWord_31 2 rfl (by rfl) (by decide) (fun _ => rfl) (fun x_4 => ?_)
      refine zo_goto (tgt := 2) hC dX8_laysWord_34 (by decide) ?_
      refine zo_sub [1, 2, 0] (lv' := [(0, .ref 83), (1, .int v1), (2, .int x_4)]) rfl ?_
      exact ih x_4 I_3

def f_X8_laysWord (v1 : Int32) (I : e_I) : Option (e_I) :=
  f_X8_laysWord_2 v1 (fun (I_1 : e_I) =>
    e_let (e_ui I_1 83 5 ((I_1 83 5) + 4)) (fun (I_2 : e_I) =>
    some I_2)) e_FU 0 I
set_option maxRecDepth 100000 in
set_option maxHeartbeats 4000000 in
theorem Zf_X8_laysWord {X : e_X} (hC : e_C X cX8_laysWord RX8 3 none 0 gN) (v1 : Int32) (I : e_I) (L : e_L) : Zo X (ph_vI L) (f_X8_laysWord v1 I) 0 [(0, .ref 83), (1, .int v1)] [] I L := by
  unfold f_X8_laysWord
  refine zo_iconst (v := 0) hC (by decide) dX8_laysWord_0 ?_
  refine zo_istore_n (lv' := [(2, .int 0), (0, .ref 83), (1, .int v1)]) hC dX8_laysWord_1 rfl (by decide) rfl ?_
  refine zo_sub [1, 2, 0] (lv' := [(0, .ref 83), (1, .int v1), (2, .int 0)]) rfl ?_
  refine Zf_X8_laysWord_2 hC L v1 _ (fun I_1 => ?_) e_FU 0 I
  · refine zo_aload_n hC dX8_laysWord_37 rfl 0 rfl ?_
    refine zo_dup hC rfl dX8_laysWord_38 ?_
    refine zo_getI hC fk8_60 at_83 dX8_laysWord_39 ?_
    refine zo_iconst (v := 4) hC (by decide) dX8_laysWord_42 ?_
    refine zo_iadd hC dX8_laysWord_43 ?_
    refine zo_putI hC fk8_60 ff8_5 at_83 dX8_laysWord_44 ?_
    refine zo_topI (fun I_2 => ?_)
    exact zo_vret hC rfl dX8_laysWord_47

theorem T_X8_laysWord (v1 : Int32) (I : e_I) (L : e_L) (p : e_I) (hp : f_X8_laysWord v1 I = some p) : Mt yX8_laysWord cX8_laysWord 3 none 0 gN [.ref 83, .int v1] I L ((ph_vI L) p) := zo_enter hp (by decide) (Nat.le_of_ble_eq_true rfl) (fun X hC => Zf_X8_laysWord hC v1 I L)
def f_X8_feed (v1 : Int32) (v2 : Int32) (v3 : Int32) (v4 : Int32) (v5 : Int32) (I : e_I) : Option (Int32 × e_I) :=
  e_let (e_ui I 83 0 0) (fun (I_1 : e_I) =>
  if (I_1 83 5) ≤ 480 then (
    e_b1 (f_X8_laysWord v1 I_1) (fun (I_3 : e_I) =>
    e_b1 (f_X8_laysWord v2 I_3) (fun (I_4 : e_I) =>
    e_b1 (f_X8_laysWord v3 I_4) (fun (I_5 : e_I) =>
    e_b1 (f_X8_laysWord v4 I_5) (fun (I_6 : e_I) =>
    e_b1 (f_X8_laysWord v5 I_6) (fun (I_7 : e_I) =>
    some ((I_7 83 5), I_7)))))))
  else (
    some ((-1), I_1)))
set_option maxRecDepth 100000 in
set_option maxHeartbeats 4000000 in
theorem Zf_X8_feed {X : e_X} (hC : e_C X cX8_feed RX8 6 (some .int) 1 gN) (v1 : Int32) (v2 : Int32) (v3 : Int32) (v4 : Int32) (v5 : Int32) (I : e_I) (L : e_L) : Zo X (ph_iI L) (f_X8_feed v1 v2 v3 v4 v5 I) 0 [(0, .ref 83), (1, .int v1), (2, .int v2), (3, .int v3), (4, .int v4), (5, .int v5)] [] I L := by
  unfold f_X8_feed
  refine zo_aload_n hC dX8_feed_0 rfl 0 rfl ?_
  refine zo_iconst (v := 0) hC (by decide) dX8_feed_1 ?_
  refine zo_putI hC fk8_54 ff8_0 at_83 dX8_feed_2 ?_
  refine zo_topI (fun I_1 => ?_)
  refine zo_aload_n hC dX8_feed_5 rfl 0 rfl ?_
  refine zo_getI hC fk8_60 at_83 dX8_feed_6 ?_
  refine zo_sipush (v := 480) hC (by decide) dX8_feed_9 ?_
  refine zo_icmp_le (tgt := 17) hC dX8_feed_12 (by decide) (fun c_2 => ?_) (fun c_2 => ?_)
  · refine zo_aload_n hC dX8_feed_17 rfl 0 rfl ?_
    refine zo_iload_n hC dX8_feed_18 rfl 1 rfl ?_
    refine zo_callV_vI hC (ci := 8) [.int v1] [] me_X8_laysWord mlX8_63 im_X8_laysWord se_X8_laysWord rfl (by decide) at_83 (fun p hp => T_X8_laysWord v1 I_1 L p hp) (by decide) rfl (Nat.le_of_ble_eq_true rfl) dX8_feed_19 rfl (fun I_3 => ?_)
    refine zo_aload_n hC dX8_feed_22 rfl 0 rfl ?_
    refine zo_iload_n hC dX8_feed_23 rfl 2 rfl ?_
    refine zo_callV_vI hC (ci := 8) [.int v2] [] me_X8_laysWord mlX8_63 im_X8_laysWord se_X8_laysWord rfl (by decide) at_83 (fun p hp => T_X8_laysWord v2 I_3 L p hp) (by decide) rfl (Nat.le_of_ble_eq_true rfl) dX8_feed_24 rfl (fun I_4 => ?_)
    refine zo_aload_n hC dX8_feed_27 rfl 0 rfl ?_
    refine zo_iload_n hC dX8_feed_28 rfl 3 rfl ?_
    refine zo_callV_vI hC (ci := 8) [.int v3] [] me_X8_laysWord mlX8_63 im_X8_laysWord se_X8_laysWord rfl (by decide) at_83 (fun p hp => T_X8_laysWord v3 I_4 L p hp) (by decide) rfl (Nat.le_of_ble_eq_true rfl) dX8_feed_29 rfl (fun I_5 => ?_)
    refine zo_aload_n hC dX8_feed_32 rfl 0 rfl ?_
    refine zo_iload hC dX8_feed_33 4 rfl ?_
    refine zo_callV_vI hC (ci := 8) [.int v4] [] me_X8_laysWord mlX8_63 im_X8_laysWord se_X8_laysWord rfl (by decide) at_83 (fun p hp => T_X8_laysWord v4 I_5 L p hp) (by decide) rfl (Nat.le_of_ble_eq_true rfl) dX8_feed_35 rfl (fun I_6 => ?_)
    refine zo_aload_n hC dX8_feed_38 rfl 0 rfl ?_
    refine zo_iload hC dX8_feed_39 5 rfl ?_
    refine zo_callV_vI hC (ci := 8) [.int v5] [] me_X8_laysWord mlX8_63 im_X8_laysWord se_X8_laysWord rfl (by decide) at_83 (fun p hp => T_X8_laysWord v5 I_6 L p hp) (by decide) rfl (Nat.le_of_ble_eq_true rfl) dX8_feed_41 rfl (fun I_7 => ?_)
    refine zo_aload_n hC dX8_feed_44 rfl 0 rfl ?_
    refine zo_getI hC fk8_60 at_83 dX8_feed_45 ?_
    exact zo_iret hC rfl dX8_feed_48
  · refine zo_iconst (v := (-1)) hC (by decide) dX8_feed_15 ?_
    exact zo_iret hC rfl dX8_feed_16

theorem T_X8_feed (v1 : Int32) (v2 : Int32) (v3 : Int32) (v4 : Int32) (v5 : Int32) (I : e_I) (L : e_L) (p : Int32 × e_I) (hp : f_X8_feed v1 v2 v3 v4 v5 I = some p) : Mt yX8_feed cX8_feed 6 (some .int) 1 gN [.ref 83, .int v1, .int v2, .int v3, .int v4, .int v5] I L ((ph_iI L) p) := zo_enter hp (by decide) (Nat.le_of_ble_eq_true rfl) (fun X hC => Zf_X8_feed hC v1 v2 v3 v4 v5 I L)
def f_X8_see_18 (I : e_I) (s0 : Int32) : Option (Int32) :=
  some s0
set_option maxRecDepth 100000 in
set_option maxHeartbeats 4000000 in
theorem Zf_X8_see_18 {X : e_X} (hC : e_C X cX8_see RX8 2 (some .int) 0 gN) (I : e_I) (L : e_L) (s0 : Int32) : Zo X (ph_i I L) (f_X8_see_18 I s0) 18 [] [.int s0] I L := by
  unfold f_X8_see_18
  exact zo_iret hC rfl dX8_see_18

def f_X8_see (v1 : Int32) (I : e_I) : Option (Int32) :=
  if v1 ≥ (I 83 11) then (
    f_X8_see_18 I (-1))
  else (
    e_as (e_ix v1 500 = true) (
    f_X8_see_18 I (I 84 v1.toNatClampNeg)))
set_option maxRecDepth 100000 in
set_option maxHeartbeats 4000000 in
theorem Zf_X8_see {X : e_X} (hC : e_C X cX8_see RX8 2 (some .int) 0 gN) (v1 : Int32) (I : e_I) (L : e_L) : Zo X (ph_i I L) (f_X8_see v1 I) 0 [(0, .ref 83), (1, .int v1)] [] I L := by
  unfold f_X8_see
  refine zo_iload_n hC dX8_see_0 rfl 1 rfl ?_
  refine zo_aload_n hC dX8_see_1 rfl 0 rfl ?_
  refine zo_getI hC fk8_67 at_83 dX8_see_2 ?_
  refine zo_icmp_ge (tgt := 17) hC dX8_see_5 (by decide) (fun c_1 => ?_) (fun c_1 => ?_)
  · refine zo_iconst (v := (-1)) hC (by decide) dX8_see_17 ?_
    refine zo_sub [] (lv' := []) rfl ?_
    exact Zf_X8_see_18 hC I L (-1)
  · refine zo_aload_n hC dX8_see_8 rfl 0 rfl ?_
    refine zo_getR hC (r := 84) fk8_13 (by decide) gr_83_4 at_83 dX8_see_9 ?_
    refine zo_iload_n hC dX8_see_12 rfl 1 rfl ?_
    refine zo_as (fun h_2 => ?_)
    refine zo_iald hC ar_84 (e_ix_vp h_2) dX8_see_13 ?_
    refine zo_goto (tgt := 18) hC dX8_see_14 (by decide) ?_
    refine zo_sub [] (lv' := []) rfl ?_
    exact Zf_X8_see_18 hC I L (I 84 v1.toNatClampNeg)

theorem T_X8_see (v1 : Int32) (I : e_I) (L : e_L) (p : Int32) (hp : f_X8_see v1 I = some p) : Mt yX8_see cX8_see 2 (some .int) 0 gN [.ref 83, .int v1] I L ((ph_i I L) p) := zo_enter hp (by decide) (Nat.le_of_ble_eq_true rfl) (fun X hC => Zf_X8_see hC v1 I L)
def f_X8_goesOn_0 (k26 : e_I → Option (e_I)) : Nat → e_I → Option (e_I)
  | 0, _ => none
  | n + 1, I =>
    e_b1 (f_X8_see (I 83 13) I) (fun (r_1 : Int32) =>
    if r_1 ≠ 32 then (
      k26 I)
    else (
      e_let (e_ui I 83 13 ((I 83 13) + 1)) (fun (I_3 : e_I) =>
      f_X8_goesOn_0 k26 n I_3)))
set_option maxRecDepth 100000 in
set_option maxHeartbeats 4000000 in
theorem Zf_X8_goesOn_0 {X : e_X} (hC : e_C X cX8_goesOn RX8 2 none 1 gN) (L : e_L) (k26 : e_I → Option (e_I)) (hk26 : ∀ (I : e_I), Zo X (ph_vI L) (k26 I) 26 [(0, .ref 83)] [] I L) : ∀ (n : Nat) (I : e_I), Zo X (ph_vI L) (f_X8_goesOn_0 k26 n I) 0 [(0, .ref 83)] [] I L := by
  intro n
  induction n with
  | zero => intro I p hp; cases hp
  | succ n ih =>
    intro I
    unfold f_X8_goesOn_0
    refine zo_aload_n hC dX8_goesOn_0 rfl 0 rfl ?_
    refine zo_aload_n hC dX8_goesOn_1 rfl 0 rfl ?_
    refine zo_getI hC fk8_70 at_83 dX8_goesOn_2 ?_
    refine zo_callV_i hC (ci := 8) [.int (I 83 13)] [] me_X8_see mlX8_73 im_X8_see se_X8_see rfl (by decide) at_83 (fun p hp => T_X8_see (I 83 13) I L p hp) (by decide) rfl (Nat.le_of_ble_eq_true rfl) dX8_goesOn_5 rfl (fun r_1 => ?_)
    refine zo_bipush (v := 32) hC (by decide) dX8_goesOn_8 ?_
    refine zo_icmp_ne (tgt := 26) hC dX8_goesOn_10 (by decide) (fun c_2 => ?_) (fun c_2 => ?_)
    · exact hk26 I
    · refine zo_aload_n hC dX8_goesOn_13 rfl 0 rfl ?_
      refine zo_dup hC rfl dX8_goesOn_14 ?_
      refine zo_getI hC fk8_70 at_83 dX8_goesOn_15 ?_
      refine zo_iconst (v := 1) hC (by decide) dX8_goesOn_18 ?_
      refine zo_iadd hC dX8_goesOn_19 ?_
      refine zo_putI hC fk8_70 ff8_13 at_83 dX8_goesOn_20 ?_
      refine zo_topI (fun I_3 => ?_)
      refine zo_goto (tgt := 0) hC dX8_goesOn_23 (by decide) ?_
      exact ih I_3

def f_X8_goesOn_65 (k96 : e_I → Option (e_I)) : Nat → e_I → Option (e_I)
  | 0, _ => none
  | n + 1, I =>
    e_b1 (f_X8_see (I 83 13) I) (fun (r_1 : Int32) =>
    e_b1 (f_X8_in r_1 97 122) (fun (r_2 : Int32) =>
    if r_2 = 0 then (
      k96 I)
    else (
      e_let (e_ui I 83 13 ((I 83 13) + 1)) (fun (I_4 : e_I) =>
      f_X8_goesOn_65 k96 n I_4))))
set_option maxRecDepth 100000 in
set_option maxHeartbeats 4000000 in
theorem Zf_X8_goesOn_65 {X : e_X} (hC : e_C X cX8_goesOn RX8 2 none 1 gN) (L : e_L) (k96 : e_I → Option (e_I)) (hk96 : ∀ (I : e_I), Zo X (ph_vI L) (k96 I) 96 [(0, .ref 83)] [] I L) : ∀ (n : Nat) (I : e_I), Zo X (ph_vI L) (f_X8_goesOn_65 k96 n I) 65 [(0, .ref 83)] [] I L := by
  intro n
  induction n with
  | zero => intro I p hp; cases hp
  | succ n ih =>
    intro I
    unfold f_X8_goesOn_65
    refine zo_aload_n hC dX8_goesOn_65 rfl 0 rfl ?_
    refine zo_aload_n hC dX8_goesOn_66 rfl 0 rfl ?_
    refine zo_getI hC fk8_70 at_83 dX8_goesOn_67 ?_
    refine zo_callV_i hC (ci := 8) [.int (I 83 13)] [] me_X8_see mlX8_73 im_X8_see se_X8_see rfl (by decide) at_83 (fun p hp => T_X8_see (I 83 13) I L p hp) (by decide) rfl (Nat.le_of_ble_eq_true rfl) dX8_goesOn_70 rfl (fun r_1 => ?_)
    refine zo_bipush (v := 97) hC (by decide) dX8_goesOn_73 ?_
    refine zo_bipush (v := 122) hC (by decide) dX8_goesOn_75 ?_
    refine zo_callS_i hC [.int r_1, .int 97, .int 122] [] me_X8_in mlX8_83 sm_X8_in (fun p hp => T_X8_in r_1 97 122 I L p hp) (by decide) rfl (Nat.le_of_ble_eq_true rfl) dX8_goesOn_77 rfl (fun r_2 => ?_)
    refine zo_if_eq (tgt := 96) hC dX8_goesOn_80 (by decide) (fun c_3 => ?_) (fun c_3 => ?_)
    · exact hk96 I
    · refine zo_aload_n hC dX8_goesOn_83 rfl 0 rfl ?_
      refine zo_dup hC rfl dX8_goesOn_84 ?_
      refine zo_getI hC fk8_70 at_83 dX8_goesOn_85 ?_
      refine zo_iconst (v := 1) hC (by decide) dX8_goesOn_88 ?_
      refine zo_iadd hC dX8_goesOn_89 ?_
      refine zo_putI hC fk8_70 ff8_13 at_83 dX8_goesOn_90 ?_
      refine zo_topI (fun I_4 => ?_)
      refine zo_goto (tgt := 65) hC dX8_goesOn_93 (by decide) ?_
      exact ih I_4

def f_X8_goesOn_116 (s0 : Int32) (I : e_I) : Option (e_I) :=
  e_let (e_ui I 83 14 s0) (fun (I_1 : e_I) =>
  some I_1)
set_option maxRecDepth 100000 in
set_option maxHeartbeats 4000000 in
theorem Zf_X8_goesOn_116 {X : e_X} (hC : e_C X cX8_goesOn RX8 2 none 1 gN) (L : e_L) (s0 : Int32) (I : e_I) : Zo X (ph_vI L) (f_X8_goesOn_116 s0 I) 116 [] [.int s0, .ref 83] I L := by
  unfold f_X8_goesOn_116
  refine zo_putI hC fk8_80 ff8_14 at_83 dX8_goesOn_116 ?_
  refine zo_topI (fun I_1 => ?_)
  exact zo_vret hC rfl dX8_goesOn_119

def f_X8_goesOn_194 (k136 : e_I → Option (e_I)) (k210 : e_I → Option (e_I)) (s0 : Int32) (I : e_I) : Option (e_I) :=
  e_let (e_ui I 83 15 s0) (fun (I_1 : e_I) =>
  e_let (e_ui I_1 83 13 ((I_1 83 13) + 1)) (fun (I_2 : e_I) =>
  k136 I_2))
set_option maxRecDepth 100000 in
set_option maxHeartbeats 4000000 in
theorem Zf_X8_goesOn_194 {X : e_X} (hC : e_C X cX8_goesOn RX8 2 none 1 gN) (L : e_L) (k136 : e_I → Option (e_I)) (k210 : e_I → Option (e_I)) (hk136 : ∀ (I : e_I), Zo X (ph_vI L) (k136 I) 136 [(0, .ref 83)] [] I L) (hk210 : ∀ (I : e_I), Zo X (ph_vI L) (k210 I) 210 [(0, .ref 83)] [] I L) (s0 : Int32) (I : e_I) : Zo X (ph_vI L) (f_X8_goesOn_194 k136 k210 s0 I) 194 [(0, .ref 83)] [.int s0, .ref 83] I L := by
  unfold f_X8_goesOn_194
  refine zo_putI hC fk8_87 ff8_15 at_83 dX8_goesOn_194 ?_
  refine zo_topI (fun I_1 => ?_)
  refine zo_aload_n hC dX8_goesOn_197 rfl 0 rfl ?_
  refine zo_dup hC rfl dX8_goesOn_198 ?_
  refine zo_getI hC fk8_70 at_83 dX8_goesOn_199 ?_
  refine zo_iconst (v := 1) hC (by decide) dX8_goesOn_202 ?_
  refine zo_iadd hC dX8_goesOn_203 ?_
  refine zo_putI hC fk8_70 ff8_13 at_83 dX8_goesOn_204 ?_
  refine zo_topI (fun I_2 => ?_)
  refine zo_goto (tgt := 136) hC dX8_goesOn_207 (by decide) ?_
  exact hk136 I_2

def f_X8_goesOn_136 (k210 : e_I → Option (e_I)) : Nat → e_I → Option (e_I)
  | 0, _ => none
  | n + 1, I =>
    e_b1 (f_X8_see (I 83 13) I) (fun (r_1 : Int32) =>
    e_b1 (f_X8_in r_1 48 57) (fun (r_2 : Int32) =>
    if r_2 = 0 then (
      k210 I)
    else (
      if ((I 83 13) - (I 83 12)) ≥ 2 then (
        f_X8_goesOn_194 (fun I => f_X8_goesOn_136 k210 n I) k210 (I 83 15) I)
      else (
        e_b1 (f_X8_see (I 83 13) I) (fun (r_5 : Int32) =>
        f_X8_goesOn_194 (fun I => f_X8_goesOn_136 k210 n I) k210 ((((10 : Int32) * (I 83 15)) + r_5) - 48) I)))))
set_option maxRecDepth 100000 in
set_option maxHeartbeats 4000000 in
theorem Zf_X8_goesOn_136 {X : e_X} (hC : e_C X cX8_goesOn RX8 2 none 1 gN) (L : e_L) (k210 : e_I → Option (e_I)) (hk210 : ∀ (I : e_I), Zo X (ph_vI L) (k210 I) 210 [(0, .ref 83)] [] I L) : ∀ (n : Nat) (I : e_I), Zo X (ph_vI L) (f_X8_goesOn_136 k210 n I) 136 [(0, .ref 83)] [] I L := by
  intro n
  induction n with
  | zero => intro I p hp; cases hp
  | succ n ih =>
    intro I
    unfold f_X8_goesOn_136
    refine zo_aload_n hC dX8_goesOn_136 rfl 0 rfl ?_
    refine zo_aload_n hC dX8_goesOn_137 rfl 0 rfl ?_
    refine zo_getI hC fk8_70 at_83 dX8_goesOn_138 ?_
    refine zo_callV_i hC (ci := 8) [.int (I 83 13)] [] me_X8_see mlX8_73 im_X8_see se_X8_see rfl (by decide) at_83 (fun p hp => T_X8_see (I 83 13) I L p hp) (by decide) rfl (Nat.le_of_ble_eq_true rfl) dX8_goesOn_141 rfl (fun r_1 => ?_)
    refine zo_bipush (v := 48) hC (by decide) dX8_goesOn_144 ?_
    refine zo_bipush (v := 57) hC (by decide) dX8_goesOn_146 ?_
    refine zo_callS_i hC [.int r_1, .int 48, .int 57] [] me_X8_in mlX8_83 sm_X8_in (fun p hp => T_X8_in r_1 48 57 I L p hp) (by decide) rfl (Nat.le_of_ble_eq_true rfl) dX8_goesOn_148 rfl (fun r_2 => ?_)
    refine zo_if_eq (tgt := 210) hC dX8_goesOn_151 (by decide) (fun c_3 => ?_) (fun c_3 => ?_)
    · exact hk210 I
    · refine zo_aload_n hC dX8_goesOn_154 rfl 0 rfl ?_
      refine zo_aload_n hC dX8_goesOn_155 rfl 0 rfl ?_
      refine zo_getI hC fk8_70 at_83 dX8_goesOn_156 ?_
      refine zo_aload_n hC dX8_goesOn_159 rfl 0 rfl ?_
      refine zo_getI hC fk8_77 at_83 dX8_goesOn_160 ?_
      refine zo_isub hC dX8_goesOn_163 ?_
      refine zo_iconst (v := 2) hC (by decide) dX8_goesOn_164 ?_
      refine zo_icmp_ge (tgt := 190) hC dX8_goesOn_165 (by decide) (fun c_4 => ?_) (fun c_4 => ?_)
      · refine zo_aload_n hC dX8_goesOn_190 rfl 0 rfl ?_
        refine zo_getI hC fk8_87 at_83 dX8_goesOn_191 ?_
        exact Zf_X8_goesOn_194 hC L (fun I => f_X8_goesOn_136 k210 n I) k210 (fun I => ih I) hk210 (I 83 15) I
      · refine zo_bipush (v := 10) hC (by decide) dX8_goesOn_168 ?_
        refine zo_aload_n hC dX8_goesOn_170 rfl 0 rfl ?_
        refine zo_getI hC fk8_87 at_83 dX8_goesOn_171 ?_
        refine zo_imul hC dX8_goesOn_174 ?_
        refine zo_aload_n hC dX8_goesOn_175 rfl 0 rfl ?_
        refine zo_aload_n hC dX8_goesOn_176 rfl 0 rfl ?_
        refine zo_getI hC fk8_70 at_83 dX8_goesOn_177 ?_
        refine zo_callV_i hC (ci := 8) [.int (I 83 13)] [.int ((10 : Int32) * (I 83 15)), .ref 83] me_X8_see mlX8_73 im_X8_see se_X8_see rfl (by decide) at_83 (fun p hp => T_X8_see (I 83 13) I L p hp) (by decide) rfl (Nat.le_of_ble_eq_true rfl) dX8_goesOn_180 rfl (fun r_5 => ?_)
        refine zo_iadd hC dX8_goesOn_183 ?_
        refine zo_bipush (v := 48) hC (by decide) dX8_goesOn_184 ?_
        refine zo_isub hC dX8_goesOn_186 ?_
        refine zo_goto (tgt := 194) hC dX8_goesOn_187 (by decide) ?_
        exact Zf_X8_goesOn_194 hC L (fun I => f_X8_goesOn_136 k210 n I) k210 (fun I => ih I) hk210 ((((10 : Int32) * (I 83 15)) + r_5) - 48) I

def f_X8_goesOn_229 (s0 : Int32) (I : e_I) : Option (e_I) :=
  e_let (e_ui I 83 14 s0) (fun (I_1 : e_I) =>
  some I_1)
set_option maxRecDepth 100000 in
set_option maxHeartbeats 4000000 in
theorem Zf_X8_goesOn_229 {X : e_X} (hC : e_C X cX8_goesOn RX8 2 none 1 gN) (L : e_L) (s0 : Int32) (I : e_I) : Zo X (ph_vI L) (f_X8_goesOn_229 s0 I) 229 [] [.int s0, .ref 83] I L := by
  unfold f_X8_goesOn_229
  refine zo_putI hC fk8_80 ff8_14 at_83 dX8_goesOn_229 ?_
  refine zo_topI (fun I_1 => ?_)
  exact zo_vret hC rfl dX8_goesOn_232

def f_X8_goesOn_255 (s0 : Int32) (I : e_I) : Option (e_I) :=
  e_let (e_ui I 83 14 s0) (fun (I_1 : e_I) =>
  some I_1)
set_option maxRecDepth 100000 in
set_option maxHeartbeats 4000000 in
theorem Zf_X8_goesOn_255 {X : e_X} (hC : e_C X cX8_goesOn RX8 2 none 1 gN) (L : e_L) (s0 : Int32) (I : e_I) : Zo X (ph_vI L) (f_X8_goesOn_255 s0 I) 255 [] [.int s0, .ref 83] I L := by
  unfold f_X8_goesOn_255
  refine zo_putI hC fk8_80 ff8_14 at_83 dX8_goesOn_255 ?_
  refine zo_topI (fun I_1 => ?_)
  exact zo_vret hC rfl dX8_goesOn_258

def f_X8_goesOn (I : e_I) : Option (e_I) :=
  f_X8_goesOn_0 (fun (I_1 : e_I) =>
    e_let (e_ui I_1 83 12 (I_1 83 13)) (fun (I_2 : e_I) =>
    e_b1 (f_X8_see (I_2 83 13) I_2) (fun (r_3 : Int32) =>
    if r_3 ≠ (-1) then (
      e_b1 (f_X8_in r_3 97 122) (fun (r_5 : Int32) =>
      if r_5 = 0 then (
        e_b1 (f_X8_in r_3 48 57) (fun (r_7 : Int32) =>
        if r_7 = 0 then (
          e_let (e_ui I_2 83 13 ((I_2 83 13) + 1)) (fun (I_9 : e_I) =>
          if r_3 ≠ 59 then (
            f_X8_goesOn_255 1 I_9)
          else (
            f_X8_goesOn_255 r_3 I_9)))
        else (
          e_let (e_ui I_2 83 15 0) (fun (I_11 : e_I) =>
          f_X8_goesOn_136 (fun (I_12 : e_I) =>
            if ((I_12 83 13) - (I_12 83 12)) ≤ 2 then (
              f_X8_goesOn_229 3 I_12)
            else (
              f_X8_goesOn_229 1 I_12)) e_FU I_11))))
      else (
        f_X8_goesOn_65 (fun (I_14 : e_I) =>
          if ((I_14 83 13) - (I_14 83 12)) ≤ 6 then (
            f_X8_goesOn_116 2 I_14)
          else (
            f_X8_goesOn_116 1 I_14)) e_FU I_2)))
    else (
      e_let (e_ui I_2 83 14 0) (fun (I_16 : e_I) =>
      some I_16))))) e_FU I
set_option maxRecDepth 100000 in
set_option maxHeartbeats 4000000 in
theorem Zf_X8_goesOn {X : e_X} (hC : e_C X cX8_goesOn RX8 2 none 1 gN) (I : e_I) (L : e_L) : Zo X (ph_vI L) (f_X8_goesOn I) 0 [(0, .ref 83)] [] I L := by
  unfold f_X8_goesOn
  refine Zf_X8_goesOn_0 hC L _ (fun I_1 => ?_) e_FU I
  · refine zo_aload_n hC dX8_goesOn_26 rfl 0 rfl ?_
    refine zo_aload_n hC dX8_goesOn_27 rfl 0 rfl ?_
    refine zo_getI hC fk8_70 at_83 dX8_goesOn_28 ?_
    refine zo_putI hC fk8_77 ff8_12 at_83 dX8_goesOn_31 ?_
    refine zo_topI (fun I_2 => ?_)
    refine zo_aload_n hC dX8_goesOn_34 rfl 0 rfl ?_
    refine zo_aload_n hC dX8_goesOn_35 rfl 0 rfl ?_
    refine zo_getI hC fk8_70 at_83 dX8_goesOn_36 ?_
    refine zo_callV_i hC (ci := 8) [.int (I_2 83 13)] [] me_X8_see mlX8_73 im_X8_see se_X8_see rfl (by decide) at_83 (fun p hp => T_X8_see (I_2 83 13) I_2 L p hp) (by decide) rfl (Nat.le_of_ble_eq_true rfl) dX8_goesOn_39 rfl (fun r_3 => ?_)
    refine zo_istore_n (lv' := [(1, .int r_3), (0, .ref 83)]) hC dX8_goesOn_42 rfl (by decide) rfl ?_
    refine zo_iload_n hC dX8_goesOn_43 rfl 0 rfl ?_
    refine zo_iconst (v := (-1)) hC (by decide) dX8_goesOn_44 ?_
    refine zo_icmp_ne (tgt := 54) hC dX8_goesOn_45 (by decide) (fun c_4 => ?_) (fun c_4 => ?_)
    · refine zo_iload_n hC dX8_goesOn_54 rfl 0 rfl ?_
      refine zo_bipush (v := 97) hC (by decide) dX8_goesOn_55 ?_
      refine zo_bipush (v := 122) hC (by decide) dX8_goesOn_57 ?_
      refine zo_callS_i hC [.int r_3, .int 97, .int 122] [] me_X8_in mlX8_83 sm_X8_in (fun p hp => T_X8_in r_3 97 122 I_2 L p hp) (by decide) rfl (Nat.le_of_ble_eq_true rfl) dX8_goesOn_59 rfl (fun r_5 => ?_)
      refine zo_if_eq (tgt := 120) hC dX8_goesOn_62 (by decide) (fun c_6 => ?_) (fun c_6 => ?_)
      · refine zo_iload_n hC dX8_goesOn_120 rfl 0 rfl ?_
        refine zo_bipush (v := 48) hC (by decide) dX8_goesOn_121 ?_
        refine zo_bipush (v := 57) hC (by decide) dX8_goesOn_123 ?_
        refine zo_callS_i hC [.int r_3, .int 48, .int 57] [] me_X8_in mlX8_83 sm_X8_in (fun p hp => T_X8_in r_3 48 57 I_2 L p hp) (by decide) rfl (Nat.le_of_ble_eq_true rfl) dX8_goesOn_125 rfl (fun r_7 => ?_)
        refine zo_if_eq (tgt := 233) hC dX8_goesOn_128 (by decide) (fun c_8 => ?_) (fun c_8 => ?_)
        · refine zo_aload_n hC dX8_goesOn_233 rfl 1 rfl ?_
          refine zo_dup hC rfl dX8_goesOn_234 ?_
          refine zo_getI hC fk8_70 at_83 dX8_goesOn_235 ?_
          refine zo_iconst (v := 1) hC (by decide) dX8_goesOn_238 ?_
          refine zo_iadd hC dX8_goesOn_239 ?_
          refine zo_putI hC fk8_70 ff8_13 at_83 dX8_goesOn_240 ?_
          refine zo_topI (fun I_9 => ?_)
          refine zo_aload_n hC dX8_goesOn_243 rfl 1 rfl ?_
          refine zo_iload_n hC dX8_goesOn_244 rfl 0 rfl ?_
          refine zo_bipush (v := 59) hC (by decide) dX8_goesOn_245 ?_
          refine zo_icmp_ne (tgt := 254) hC dX8_goesOn_247 (by decide) (fun c_10 => ?_) (fun c_10 => ?_)
          · refine zo_iconst (v := 1) hC (by decide) dX8_goesOn_254 ?_
            refine zo_sub [] (lv' := []) rfl ?_
            exact Zf_X8_goesOn_255 hC L 1 I_9
          · refine zo_iload_n hC dX8_goesOn_250 rfl 0 rfl ?_
            refine zo_goto (tgt := 255) hC dX8_goesOn_251 (by decide) ?_
            refine zo_sub [] (lv' := []) rfl ?_
            exact Zf_X8_goesOn_255 hC L r_3 I_9
        · refine zo_aload_n hC dX8_goesOn_131 rfl 1 rfl ?_
          refine zo_iconst (v := 0) hC (by decide) dX8_goesOn_132 ?_
          refine zo_putI hC fk8_87 ff8_15 at_83 dX8_goesOn_133 ?_
          refine zo_topI (fun I_11 => ?_)
          refine zo_sub [1] (lv' := [(0, .ref 83)]) rfl ?_
          refine Zf_X8_goesOn_136 hC L _ (fun I_12 => ?_) e_FU I_11
          · refine zo_aload_n hC dX8_goesOn_210 rfl 0 rfl ?_
            refine zo_aload_n hC dX8_goesOn_211 rfl 0 rfl ?_
            refine zo_getI hC fk8_70 at_83 dX8_goesOn_212 ?_
            refine zo_aload_n hC dX8_goesOn_215 rfl 0 rfl ?_
            refine zo_getI hC fk8_77 at_83 dX8_goesOn_216 ?_
            refine zo_isub hC dX8_goesOn_219 ?_
            refine zo_iconst (v := 2) hC (by decide) dX8_goesOn_220 ?_
            refine zo_icmp_le (tgt := 228) hC dX8_goesOn_221 (by decide) (fun c_13 => ?_) (fun c_13 => ?_)
            · refine zo_iconst (v := 3) hC (by decide) dX8_goesOn_228 ?_
              refine zo_sub [] (lv' := []) rfl ?_
              exact Zf_X8_goesOn_229 hC L 3 I_12
            · refine zo_iconst (v := 1) hC (by decide) dX8_goesOn_224 ?_
              refine zo_goto (tgt := 229) hC dX8_goesOn_225 (by decide) ?_
              refine zo_sub [] (lv' := []) rfl ?_
              exact Zf_X8_goesOn_229 hC L 1 I_12
      · refine zo_sub [1] (lv' := [(0, .ref 83)]) rfl ?_
        refine Zf_X8_goesOn_65 hC L _ (fun I_14 => ?_) e_FU I_2
        · refine zo_aload_n hC dX8_goesOn_96 rfl 0 rfl ?_
          refine zo_aload_n hC dX8_goesOn_97 rfl 0 rfl ?_
          refine zo_getI hC fk8_70 at_83 dX8_goesOn_98 ?_
          refine zo_aload_n hC dX8_goesOn_101 rfl 0 rfl ?_
          refine zo_getI hC fk8_77 at_83 dX8_goesOn_102 ?_
          refine zo_isub hC dX8_goesOn_105 ?_
          refine zo_bipush (v := 6) hC (by decide) dX8_goesOn_106 ?_
          refine zo_icmp_le (tgt := 115) hC dX8_goesOn_108 (by decide) (fun c_15 => ?_) (fun c_15 => ?_)
          · refine zo_iconst (v := 2) hC (by decide) dX8_goesOn_115 ?_
            refine zo_sub [] (lv' := []) rfl ?_
            exact Zf_X8_goesOn_116 hC L 2 I_14
          · refine zo_iconst (v := 1) hC (by decide) dX8_goesOn_111 ?_
            refine zo_goto (tgt := 116) hC dX8_goesOn_112 (by decide) ?_
            refine zo_sub [] (lv' := []) rfl ?_
            exact Zf_X8_goesOn_116 hC L 1 I_14
    · refine zo_aload_n hC dX8_goesOn_48 rfl 1 rfl ?_
      refine zo_iconst (v := 0) hC (by decide) dX8_goesOn_49 ?_
      refine zo_putI hC fk8_80 ff8_14 at_83 dX8_goesOn_50 ?_
      refine zo_topI (fun I_16 => ?_)
      exact zo_vret hC rfl dX8_goesOn_53

theorem T_X8_goesOn (I : e_I) (L : e_L) (p : e_I) (hp : f_X8_goesOn I = some p) : Mt yX8_goesOn cX8_goesOn 2 none 1 gN [.ref 83] I L ((ph_vI L) p) := zo_enter hp (by decide) (Nat.le_of_ble_eq_true rfl) (fun X hC => Zf_X8_goesOn hC I L)
def f_X8_isWord_24 (w1 : Nat) (I : e_I) : Option (Int32) :=
  some 0
set_option maxRecDepth 100000 in
set_option maxHeartbeats 4000000 in
theorem Zf_X8_isWord_24 {X : e_X} (hC : e_C X cX8_isWord RX8 3 (some .boolean) 4 gN) (w1 : Nat) (hw1 : e_iw w1) (I : e_I) (L : e_L) : Zo X (ph_i I L) (f_X8_isWord_24 w1 I) 24 [] [] I L := by
  unfold f_X8_isWord_24
  refine zo_iconst (v := 0) hC (by decide) dX8_isWord_24 ?_
  exact zo_zret hC (by decide) rfl dX8_isWord_25

def f_X8_isWord_28 (w1 : Nat) (I : e_I) (k63 : Unit → Option (Int32)) (k55 : Unit → Option (Int32)) : Nat → Int32 → Option (Int32)
  | 0, _ => none
  | n + 1, v2 =>
    if v2 ≥ (e_sl w1) then (
      k63 ())
    else (
      e_as (e_ix ((I 83 12) + v2) 500 = true) (
      e_as (e_ix v2 (e_sn w1) = true) (
      if (I 84 ((I 83 12) + v2).toNatClampNeg) = (e_sc w1 v2) then (
        e_let (v2 + 1) (fun (x_5 : Int32) =>
        f_X8_isWord_28 w1 I k63 k55 n x_5))
      else (
        k55 ()))))
set_option maxRecDepth 100000 in
set_option maxHeartbeats 4000000 in
theorem Zf_X8_isWord_28 {X : e_X} (hC : e_C X cX8_isWord RX8 3 (some .boolean) 4 gN) (w1 : Nat) (hw1 : e_iw w1) (I : e_I) (L : e_L) (k63 : Unit → Option (Int32)) (k55 : Unit → Option (Int32)) (hk63 : Zo X (ph_i I L) (k63 ()) 63 [] [] I L) (hk55 : Zo X (ph_i I L) (k55 ()) 55 [] [] I L) : ∀ (n : Nat) (v2 : Int32), Zo X (ph_i I L) (f_X8_isWord_28 w1 I k63 k55 n v2) 28 [(0, .ref 83), (1, .ref w1), (2, .int v2)] [] I L := by
  intro n
  induction n with
  | zero => intro v2 p hp; cases hp
  | succ n ih =>
    intro v2
    unfold f_X8_isWord_28
    refine zo_iload_n hC dX8_isWord_28 rfl 2 rfl ?_
    refine zo_aload_n hC dX8_isWord_29 rfl 1 rfl ?_
    refine zo_slen hC hw1 mlX8_90 (by decide) (Nat.le_of_ble_eq_true rfl) dX8_isWord_30 ?_
    refine zo_icmp_ge (tgt := 63) hC dX8_isWord_33 (by decide) (fun c_1 => ?_) (fun c_1 => ?_)
    · refine zo_sub [] (lv' := []) rfl ?_
      exact hk63
    · refine zo_aload_n hC dX8_isWord_36 rfl 0 rfl ?_
      refine zo_getR hC (r := 84) fk8_13 (by decide) gr_83_4 at_83 dX8_isWord_37 ?_
      refine zo_aload_n hC dX8_isWord_40 rfl 0 rfl ?_
      refine zo_getI hC fk8_77 at_83 dX8_isWord_41 ?_
      refine zo_iload_n hC dX8_isWord_44 rfl 2 rfl ?_
      refine zo_iadd hC dX8_isWord_45 ?_
      refine zo_as (fun h_2 => ?_)
      refine zo_iald hC ar_84 (e_ix_vp h_2) dX8_isWord_46 ?_
      refine zo_aload_n hC dX8_isWord_47 rfl 1 rfl ?_
      refine zo_iload_n hC dX8_isWord_48 rfl 2 rfl ?_
      refine zo_as (fun h_3 => ?_)
      refine zo_scharAt hC hw1 h_3 mlX8_96 (by decide) (Nat.le_of_ble_eq_true rfl) dX8_isWord_49 ?_
      refine zo_icmp_eq (tgt := 57) hC dX8_isWord_52 (by decide) (fun c_4 => ?_) (fun c_4 => ?_)
      · refine zo_iinc hC (x := v2) (fun x_5 => [(2, .int x_5), (0, .ref 83), (1, .ref w1)]) dX8_isWord_57 2 rfl (by rfl) (by decide) (fun _ => rfl) (fun x_5 => ?_)
        refine zo_goto (tgt := 28) hC dX8_isWord_60 (by decide) ?_
        refine zo_sub [1, 2, 0] (lv' := [(0, .ref 83), (1, .ref w1), (2, .int x_5)]) rfl ?_
        exact ih x_5
      · refine zo_sub [] (lv' := []) rfl ?_
        exact hk55

def f_X8_isWord (w1 : Nat) (I : e_I) : Option (Int32) :=
  if (I 83 14) ≠ 2 then (
    f_X8_isWord_24 w1 I )
  else (
    if ((I 83 13) - (I 83 12)) = (e_sl w1) then (
      f_X8_isWord_28 w1 I (fun (_ : Unit) =>
        some 1) (fun (_ : Unit) =>
        some 0) e_FU 0)
    else (
      f_X8_isWord_24 w1 I ))
set_option maxRecDepth 100000 in
set_option maxHeartbeats 4000000 in
theorem Zf_X8_isWord {X : e_X} (hC : e_C X cX8_isWord RX8 3 (some .boolean) 4 gN) (w1 : Nat) (hw1 : e_iw w1) (I : e_I) (L : e_L) : Zo X (ph_i I L) (f_X8_isWord w1 I) 0 [(0, .ref 83), (1, .ref w1)] [] I L := by
  unfold f_X8_isWord
  refine zo_aload_n hC dX8_isWord_0 rfl 0 rfl ?_
  refine zo_getI hC fk8_80 at_83 dX8_isWord_1 ?_
  refine zo_iconst (v := 2) hC (by decide) dX8_isWord_4 ?_
  refine zo_icmp_ne (tgt := 24) hC dX8_isWord_5 (by decide) (fun c_1 => ?_) (fun c_1 => ?_)
  · refine zo_sub [] (lv' := []) rfl ?_
    exact Zf_X8_isWord_24 hC w1 hw1 I L 
  · refine zo_aload_n hC dX8_isWord_8 rfl 0 rfl ?_
    refine zo_getI hC fk8_70 at_83 dX8_isWord_9 ?_
    refine zo_aload_n hC dX8_isWord_12 rfl 0 rfl ?_
    refine zo_getI hC fk8_77 at_83 dX8_isWord_13 ?_
    refine zo_isub hC dX8_isWord_16 ?_
    refine zo_aload_n hC dX8_isWord_17 rfl 1 rfl ?_
    refine zo_slen hC hw1 mlX8_90 (by decide) (Nat.le_of_ble_eq_true rfl) dX8_isWord_18 ?_
    refine zo_icmp_eq (tgt := 26) hC dX8_isWord_21 (by decide) (fun c_2 => ?_) (fun c_2 => ?_)
    · refine zo_iconst (v := 0) hC (by decide) dX8_isWord_26 ?_
      refine zo_istore_n (lv' := [(2, .int 0), (0, .ref 83), (1, .ref w1)]) hC dX8_isWord_27 rfl (by decide) rfl ?_
      refine zo_sub [1, 2, 0] (lv' := [(0, .ref 83), (1, .ref w1), (2, .int 0)]) rfl ?_
      refine Zf_X8_isWord_28 hC w1 hw1 I L _ _ ?_ ?_ e_FU 0
      · refine zo_iconst (v := 1) hC (by decide) dX8_isWord_63 ?_
        exact zo_zret hC (by decide) rfl dX8_isWord_64
      · refine zo_iconst (v := 0) hC (by decide) dX8_isWord_55 ?_
        exact zo_zret hC (by decide) rfl dX8_isWord_56
    · refine zo_sub [] (lv' := []) rfl ?_
      exact Zf_X8_isWord_24 hC w1 hw1 I L 

theorem T_X8_isWord (w1 : Nat) (hw1 : e_iw w1) (I : e_I) (L : e_L) (p : Int32) (hp : f_X8_isWord w1 I = some p) : Mt yX8_isWord cX8_isWord 3 (some .boolean) 4 gN [.ref 83, .ref w1] I L ((ph_i I L) p) := zo_enter hp (by decide) (Nat.le_of_ble_eq_true rfl) (fun X hC => Zf_X8_isWord hC w1 hw1 I L)
def f_X8_errs (v1 : Int32) (I : e_I) : Option (Int32 × e_I) :=
  e_let (e_ui I 83 17 v1) (fun (I_1 : e_I) =>
  e_let (e_ui I_1 83 18 (I_1 83 12)) (fun (I_2 : e_I) =>
  some (0, I_2)))
set_option maxRecDepth 100000 in
set_option maxHeartbeats 4000000 in
theorem Zf_X8_errs {X : e_X} (hC : e_C X cX8_errs RX8 2 (some .boolean) 0 gN) (v1 : Int32) (I : e_I) (L : e_L) : Zo X (ph_iI L) (f_X8_errs v1 I) 0 [(0, .ref 83), (1, .int v1)] [] I L := by
  unfold f_X8_errs
  refine zo_aload_n hC dX8_errs_0 rfl 0 rfl ?_
  refine zo_iload_n hC dX8_errs_1 rfl 1 rfl ?_
  refine zo_putI hC fk8_100 ff8_17 at_83 dX8_errs_2 ?_
  refine zo_topI (fun I_1 => ?_)
  refine zo_aload_n hC dX8_errs_5 rfl 0 rfl ?_
  refine zo_aload_n hC dX8_errs_6 rfl 0 rfl ?_
  refine zo_getI hC fk8_77 at_83 dX8_errs_7 ?_
  refine zo_putI hC fk8_103 ff8_18 at_83 dX8_errs_10 ?_
  refine zo_topI (fun I_2 => ?_)
  refine zo_iconst (v := 0) hC (by decide) dX8_errs_13 ?_
  exact zo_zret hC (by decide) rfl dX8_errs_14

theorem T_X8_errs (v1 : Int32) (I : e_I) (L : e_L) (p : Int32 × e_I) (hp : f_X8_errs v1 I = some p) : Mt yX8_errs cX8_errs 2 (some .boolean) 0 gN [.ref 83, .int v1] I L ((ph_iI L) p) := zo_enter hp (by decide) (Nat.le_of_ble_eq_true rfl) (fun X hC => Zf_X8_errs hC v1 I L)
def f_X8_isName_67 (I : e_I) (s0 : Int32) : Option (Int32) :=
  e_as (s0 = 0 ∨ s0 = 1) (
  some s0)
set_option maxRecDepth 100000 in
set_option maxHeartbeats 4000000 in
theorem Zf_X8_isName_67 {X : e_X} (hC : e_C X cX8_isName RX8 1 (some .boolean) 5 gN) (I : e_I) (L : e_L) (s0 : Int32) : Zo X (ph_i I L) (f_X8_isName_67 I s0) 67 [] [.int s0] I L := by
  unfold f_X8_isName_67
  refine zo_as (fun h_1 => ?_)
  exact zo_zret hC h_1 rfl dX8_isName_67

def f_X8_isName_66 (I : e_I) : Option (Int32) :=
  f_X8_isName_67 I 0
set_option maxRecDepth 100000 in
set_option maxHeartbeats 4000000 in
theorem Zf_X8_isName_66 {X : e_X} (hC : e_C X cX8_isName RX8 1 (some .boolean) 5 gN) (I : e_I) (L : e_L) : Zo X (ph_i I L) (f_X8_isName_66 I) 66 [] [] I L := by
  unfold f_X8_isName_66
  refine zo_iconst (v := 0) hC (by decide) dX8_isName_66 ?_
  exact Zf_X8_isName_67 hC I L 0

def f_X8_isName (I : e_I) : Option (Int32) :=
  if (I 83 14) ≠ 2 then (
    f_X8_isName_66 I )
  else (
    e_b1 (f_X8_isWord 1005 I) (fun (r_2 : Int32) =>
    if r_2 ≠ 0 then (
      f_X8_isName_66 I )
    else (
      e_b1 (f_X8_isWord 1000 I) (fun (r_4 : Int32) =>
      if r_4 ≠ 0 then (
        f_X8_isName_66 I )
      else (
        e_b1 (f_X8_isWord 1001 I) (fun (r_6 : Int32) =>
        if r_6 ≠ 0 then (
          f_X8_isName_66 I )
        else (
          e_b1 (f_X8_isWord 1002 I) (fun (r_8 : Int32) =>
          if r_8 ≠ 0 then (
            f_X8_isName_66 I )
          else (
            e_b1 (f_X8_isWord 1003 I) (fun (r_10 : Int32) =>
            if r_10 ≠ 0 then (
              f_X8_isName_66 I )
            else (
              e_b1 (f_X8_isWord 1004 I) (fun (r_12 : Int32) =>
              if r_12 ≠ 0 then (
                f_X8_isName_66 I )
              else (
                f_X8_isName_67 I 1)))))))))))))
set_option maxRecDepth 100000 in
set_option maxHeartbeats 4000000 in
theorem Zf_X8_isName {X : e_X} (hC : e_C X cX8_isName RX8 1 (some .boolean) 5 gN) (I : e_I) (L : e_L) : Zo X (ph_i I L) (f_X8_isName I) 0 [(0, .ref 83)] [] I L := by
  unfold f_X8_isName
  refine zo_aload_n hC dX8_isName_0 rfl 0 rfl ?_
  refine zo_getI hC fk8_80 at_83 dX8_isName_1 ?_
  refine zo_iconst (v := 2) hC (by decide) dX8_isName_4 ?_
  refine zo_icmp_ne (tgt := 66) hC dX8_isName_5 (by decide) (fun c_1 => ?_) (fun c_1 => ?_)
  · refine zo_sub [] (lv' := []) rfl ?_
    exact Zf_X8_isName_66 hC I L 
  · refine zo_aload_n hC dX8_isName_8 rfl 0 rfl ?_
    refine zo_ldcs hC (w := 1005) (i := 6) rfl rfl dX8_isName_9 ?_
    refine zo_callV_i hC (ci := 8) [.ref 1005] [] me_X8_isWord mlX8_108 im_X8_isWord se_X8_isWord rfl (by decide) at_83 (fun p hp => T_X8_isWord 1005 iw_1005 I L p hp) (by decide) rfl (Nat.le_of_ble_eq_true rfl) dX8_isName_11 rfl (fun r_2 => ?_)
    refine zo_if_ne (tgt := 66) hC dX8_isName_14 (by decide) (fun c_3 => ?_) (fun c_3 => ?_)
    · refine zo_sub [] (lv' := []) rfl ?_
      exact Zf_X8_isName_66 hC I L 
    · refine zo_aload_n hC dX8_isName_17 rfl 0 rfl ?_
      refine zo_ldcs hC (w := 1000) (i := 7) rfl rfl dX8_isName_18 ?_
      refine zo_callV_i hC (ci := 8) [.ref 1000] [] me_X8_isWord mlX8_108 im_X8_isWord se_X8_isWord rfl (by decide) at_83 (fun p hp => T_X8_isWord 1000 iw_1000 I L p hp) (by decide) rfl (Nat.le_of_ble_eq_true rfl) dX8_isName_20 rfl (fun r_4 => ?_)
      refine zo_if_ne (tgt := 66) hC dX8_isName_23 (by decide) (fun c_5 => ?_) (fun c_5 => ?_)
      · refine zo_sub [] (lv' := []) rfl ?_
        exact Zf_X8_isName_66 hC I L 
      · refine zo_aload_n hC dX8_isName_26 rfl 0 rfl ?_
        refine zo_ldcs hC (w := 1001) (i := 8) rfl rfl dX8_isName_27 ?_
        refine zo_callV_i hC (ci := 8) [.ref 1001] [] me_X8_isWord mlX8_108 im_X8_isWord se_X8_isWord rfl (by decide) at_83 (fun p hp => T_X8_isWord 1001 iw_1001 I L p hp) (by decide) rfl (Nat.le_of_ble_eq_true rfl) dX8_isName_29 rfl (fun r_6 => ?_)
        refine zo_if_ne (tgt := 66) hC dX8_isName_32 (by decide) (fun c_7 => ?_) (fun c_7 => ?_)
        · refine zo_sub [] (lv' := []) rfl ?_
          exact Zf_X8_isName_66 hC I L 
        · refine zo_aload_n hC dX8_isName_35 rfl 0 rfl ?_
          refine zo_ldcs hC (w := 1002) (i := 9) rfl rfl dX8_isName_36 ?_
          refine zo_callV_i hC (ci := 8) [.ref 1002] [] me_X8_isWord mlX8_108 im_X8_isWord se_X8_isWord rfl (by decide) at_83 (fun p hp => T_X8_isWord 1002 iw_1002 I L p hp) (by decide) rfl (Nat.le_of_ble_eq_true rfl) dX8_isName_38 rfl (fun r_8 => ?_)
          refine zo_if_ne (tgt := 66) hC dX8_isName_41 (by decide) (fun c_9 => ?_) (fun c_9 => ?_)
          · refine zo_sub [] (lv' := []) rfl ?_
            exact Zf_X8_isName_66 hC I L 
          · refine zo_aload_n hC dX8_isName_44 rfl 0 rfl ?_
            refine zo_ldcs hC (w := 1003) (i := 10) rfl rfl dX8_isName_45 ?_
            refine zo_callV_i hC (ci := 8) [.ref 1003] [] me_X8_isWord mlX8_108 im_X8_isWord se_X8_isWord rfl (by decide) at_83 (fun p hp => T_X8_isWord 1003 iw_1003 I L p hp) (by decide) rfl (Nat.le_of_ble_eq_true rfl) dX8_isName_47 rfl (fun r_10 => ?_)
            refine zo_if_ne (tgt := 66) hC dX8_isName_50 (by decide) (fun c_11 => ?_) (fun c_11 => ?_)
            · refine zo_sub [] (lv' := []) rfl ?_
              exact Zf_X8_isName_66 hC I L 
            · refine zo_aload_n hC dX8_isName_53 rfl 0 rfl ?_
              refine zo_ldcs hC (w := 1004) (i := 11) rfl rfl dX8_isName_54 ?_
              refine zo_callV_i hC (ci := 8) [.ref 1004] [] me_X8_isWord mlX8_108 im_X8_isWord se_X8_isWord rfl (by decide) at_83 (fun p hp => T_X8_isWord 1004 iw_1004 I L p hp) (by decide) rfl (Nat.le_of_ble_eq_true rfl) dX8_isName_56 rfl (fun r_12 => ?_)
              refine zo_if_ne (tgt := 66) hC dX8_isName_59 (by decide) (fun c_13 => ?_) (fun c_13 => ?_)
              · refine zo_sub [] (lv' := []) rfl ?_
                exact Zf_X8_isName_66 hC I L 
              · refine zo_iconst (v := 1) hC (by decide) dX8_isName_62 ?_
                refine zo_goto (tgt := 67) hC dX8_isName_63 (by decide) ?_
                refine zo_sub [] (lv' := []) rfl ?_
                exact Zf_X8_isName_67 hC I L 1

theorem T_X8_isName (I : e_I) (L : e_L) (p : Int32) (hp : f_X8_isName I = some p) : Mt yX8_isName cX8_isName 1 (some .boolean) 5 gN [.ref 83] I L ((ph_i I L) p) := zo_enter hp (by decide) (Nat.le_of_ble_eq_true rfl) (fun X hC => Zf_X8_isName hC I L)
def f_X8_isAt_99 (a1 : Nat) (I : e_I) (v2 : Int32) (v3 : Int32) (v4 : Int32) (k19 : Int32 → Int32 → Option (Int32)) (k107 : Int32 → Option (Int32)) (v6 : Int32) (s0 : Int32) : Option (Int32) :=
  e_let (v6 + 1) (fun (x_1 : Int32) =>
  k19 s0 x_1)
set_option maxRecDepth 100000 in
set_option maxHeartbeats 4000000 in
theorem Zf_X8_isAt_99 {X : e_X} (hC : e_C X cX8_isAt RX8 8 (some .boolean) 0 gN) (a1 : Nat) (ha1 : e_ir a1) (I : e_I) (L : e_L) (v2 : Int32) (v3 : Int32) (v4 : Int32) (k19 : Int32 → Int32 → Option (Int32)) (k107 : Int32 → Option (Int32)) (hk19 : ∀ (v5 : Int32) (v6 : Int32), Zo X (ph_i I L) (k19 v5 v6) 19 [(0, .ref 83), (1, .ref a1), (2, .int v2), (3, .int v3), (4, .int v4), (5, .int v5), (6, .int v6)] [] I L) (hk107 : ∀ (v5 : Int32), Zo X (ph_i I L) (k107 v5) 107 [(5, .int v5)] [] I L) (v6 : Int32) (s0 : Int32) : Zo X (ph_i I L) (f_X8_isAt_99 a1 I v2 v3 v4 k19 k107 v6 s0) 99 [(0, .ref 83), (1, .ref a1), (2, .int v2), (3, .int v3), (4, .int v4), (6, .int v6)] [.int s0] I L := by
  unfold f_X8_isAt_99
  refine zo_istore (lv' := [(5, .int s0), (0, .ref 83), (1, .ref a1), (2, .int v2), (3, .int v3), (4, .int v4), (6, .int v6)]) hC dX8_isAt_99 (by decide) rfl ?_
  refine zo_iinc hC (x := v6) (fun x_1 => [(6, .int x_1), (5, .int s0), (0, .ref 83), (1, .ref a1), (2, .int v2), (3, .int v3), (4, .int v4)]) dX8_isAt_101 6 rfl (by rfl) (by decide) (fun _ => rfl) (fun x_1 => ?_)
  refine zo_goto (tgt := 19) hC dX8_isAt_104 (by decide) ?_
  refine zo_sub [2, 3, 4, 5, 6, 1, 0] (lv' := [(0, .ref 83), (1, .ref a1), (2, .int v2), (3, .int v3), (4, .int v4), (5, .int s0), (6, .int x_1)]) rfl ?_
  exact hk19 s0 x_1

def f_X8_isAt_94 (a1 : Nat) (I : e_I) (v2 : Int32) (v3 : Int32) (v4 : Int32) (k19 : Int32 → Int32 → Option (Int32)) (k107 : Int32 → Option (Int32)) (v6 : Int32) : Option (Int32) :=
  f_X8_isAt_99 a1 I v2 v3 v4 k19 k107 v6 1
set_option maxRecDepth 100000 in
set_option maxHeartbeats 4000000 in
theorem Zf_X8_isAt_94 {X : e_X} (hC : e_C X cX8_isAt RX8 8 (some .boolean) 0 gN) (a1 : Nat) (ha1 : e_ir a1) (I : e_I) (L : e_L) (v2 : Int32) (v3 : Int32) (v4 : Int32) (k19 : Int32 → Int32 → Option (Int32)) (k107 : Int32 → Option (Int32)) (hk19 : ∀ (v5 : Int32) (v6 : Int32), Zo X (ph_i I L) (k19 v5 v6) 19 [(0, .ref 83), (1, .ref a1), (2, .int v2), (3, .int v3), (4, .int v4), (5, .int v5), (6, .int v6)] [] I L) (hk107 : ∀ (v5 : Int32), Zo X (ph_i I L) (k107 v5) 107 [(5, .int v5)] [] I L) (v6 : Int32) : Zo X (ph_i I L) (f_X8_isAt_94 a1 I v2 v3 v4 k19 k107 v6) 94 [(0, .ref 83), (1, .ref a1), (2, .int v2), (3, .int v3), (4, .int v4), (6, .int v6)] [] I L := by
  unfold f_X8_isAt_94
  refine zo_iconst (v := 1) hC (by decide) dX8_isAt_94 ?_
  refine zo_goto (tgt := 99) hC dX8_isAt_95 (by decide) ?_
  exact Zf_X8_isAt_99 hC a1 ha1 I L v2 v3 v4 k19 k107 hk19 hk107 v6 1

def f_X8_isAt_98 (a1 : Nat) (I : e_I) (v2 : Int32) (v3 : Int32) (v4 : Int32) (k19 : Int32 → Int32 → Option (Int32)) (k107 : Int32 → Option (Int32)) (v6 : Int32) : Option (Int32) :=
  f_X8_isAt_99 a1 I v2 v3 v4 k19 k107 v6 0
set_option maxRecDepth 100000 in
set_option maxHeartbeats 4000000 in
theorem Zf_X8_isAt_98 {X : e_X} (hC : e_C X cX8_isAt RX8 8 (some .boolean) 0 gN) (a1 : Nat) (ha1 : e_ir a1) (I : e_I) (L : e_L) (v2 : Int32) (v3 : Int32) (v4 : Int32) (k19 : Int32 → Int32 → Option (Int32)) (k107 : Int32 → Option (Int32)) (hk19 : ∀ (v5 : Int32) (v6 : Int32), Zo X (ph_i I L) (k19 v5 v6) 19 [(0, .ref 83), (1, .ref a1), (2, .int v2), (3, .int v3), (4, .int v4), (5, .int v5), (6, .int v6)] [] I L) (hk107 : ∀ (v5 : Int32), Zo X (ph_i I L) (k107 v5) 107 [(5, .int v5)] [] I L) (v6 : Int32) : Zo X (ph_i I L) (f_X8_isAt_98 a1 I v2 v3 v4 k19 k107 v6) 98 [(0, .ref 83), (1, .ref a1), (2, .int v2), (3, .int v3), (4, .int v4), (6, .int v6)] [] I L := by
  unfold f_X8_isAt_98
  refine zo_iconst (v := 0) hC (by decide) dX8_isAt_98 ?_
  exact Zf_X8_isAt_99 hC a1 ha1 I L v2 v3 v4 k19 k107 hk19 hk107 v6 0

def f_X8_isAt_40 (a1 : Nat) (I : e_I) (v2 : Int32) (v3 : Int32) (v4 : Int32) (k19 : Int32 → Int32 → Option (Int32)) (k107 : Int32 → Option (Int32)) (v5 : Int32) (v6 : Int32) (s0 : Int32) : Option (Int32) :=
  if v5 = 0 then (
    f_X8_isAt_98 a1 I v2 v3 v4 k19 k107 v6)
  else (
    if s0 = 0 then (
      e_as (e_ix (v2 + v6) (e_ln a1) = true) (
      if (I a1 (v2 + v6).toNatClampNeg) ≠ 0 then (
        f_X8_isAt_98 a1 I v2 v3 v4 k19 k107 v6)
      else (
        f_X8_isAt_94 a1 I v2 v3 v4 k19 k107 v6)))
    else (
      e_as (e_ix (v3 + v6) 500 = true) (
      if (I 84 (v3 + v6).toNatClampNeg) = 0 then (
        f_X8_isAt_98 a1 I v2 v3 v4 k19 k107 v6)
      else (
        e_as (e_ix (v2 + v6) (e_ln a1) = true) (
        e_as (e_ix (v3 + v6) 500 = true) (
        if (I a1 (v2 + v6).toNatClampNeg) ≠ (I 84 (v3 + v6).toNatClampNeg) then (
          f_X8_isAt_98 a1 I v2 v3 v4 k19 k107 v6)
        else (
          f_X8_isAt_94 a1 I v2 v3 v4 k19 k107 v6)))))))
set_option maxRecDepth 100000 in
set_option maxHeartbeats 4000000 in
theorem Zf_X8_isAt_40 {X : e_X} (hC : e_C X cX8_isAt RX8 8 (some .boolean) 0 gN) (a1 : Nat) (ha1 : e_ir a1) (I : e_I) (L : e_L) (v2 : Int32) (v3 : Int32) (v4 : Int32) (k19 : Int32 → Int32 → Option (Int32)) (k107 : Int32 → Option (Int32)) (hk19 : ∀ (v5 : Int32) (v6 : Int32), Zo X (ph_i I L) (k19 v5 v6) 19 [(0, .ref 83), (1, .ref a1), (2, .int v2), (3, .int v3), (4, .int v4), (5, .int v5), (6, .int v6)] [] I L) (hk107 : ∀ (v5 : Int32), Zo X (ph_i I L) (k107 v5) 107 [(5, .int v5)] [] I L) (v5 : Int32) (v6 : Int32) (s0 : Int32) : Zo X (ph_i I L) (f_X8_isAt_40 a1 I v2 v3 v4 k19 k107 v5 v6 s0) 40 [(0, .ref 83), (1, .ref a1), (2, .int v2), (3, .int v3), (4, .int v4), (5, .int v5), (6, .int v6)] [.int s0] I L := by
  unfold f_X8_isAt_40
  refine zo_istore (lv' := [(7, .int s0), (0, .ref 83), (1, .ref a1), (2, .int v2), (3, .int v3), (4, .int v4), (5, .int v5), (6, .int v6)]) hC dX8_isAt_40 (by decide) rfl ?_
  refine zo_iload hC dX8_isAt_42 6 rfl ?_
  refine zo_if_eq (tgt := 98) hC dX8_isAt_44 (by decide) (fun c_1 => ?_) (fun c_1 => ?_)
  · refine zo_sub [1, 2, 3, 4, 5, 7] (lv' := [(0, .ref 83), (1, .ref a1), (2, .int v2), (3, .int v3), (4, .int v4), (6, .int v6)]) rfl ?_
    exact Zf_X8_isAt_98 hC a1 ha1 I L v2 v3 v4 k19 k107 hk19 hk107 v6
  · refine zo_iload hC dX8_isAt_47 0 rfl ?_
    refine zo_if_eq (tgt := 85) hC dX8_isAt_49 (by decide) (fun c_2 => ?_) (fun c_2 => ?_)
    · refine zo_aload_n hC dX8_isAt_85 rfl 2 rfl ?_
      refine zo_iload_n hC dX8_isAt_86 rfl 3 rfl ?_
      refine zo_iload hC dX8_isAt_87 7 rfl ?_
      refine zo_iadd hC dX8_isAt_89 ?_
      refine zo_as (fun h_3 => ?_)
      refine zo_iald hC (e_ir_ar ha1) (e_ix_vp h_3) dX8_isAt_90 ?_
      refine zo_if_ne (tgt := 98) hC dX8_isAt_91 (by decide) (fun c_4 => ?_) (fun c_4 => ?_)
      · refine zo_sub [1, 2, 3, 4, 5, 7] (lv' := [(0, .ref 83), (1, .ref a1), (2, .int v2), (3, .int v3), (4, .int v4), (6, .int v6)]) rfl ?_
        exact Zf_X8_isAt_98 hC a1 ha1 I L v2 v3 v4 k19 k107 hk19 hk107 v6
      · refine zo_sub [1, 2, 3, 4, 5, 7] (lv' := [(0, .ref 83), (1, .ref a1), (2, .int v2), (3, .int v3), (4, .int v4), (6, .int v6)]) rfl ?_
        exact Zf_X8_isAt_94 hC a1 ha1 I L v2 v3 v4 k19 k107 hk19 hk107 v6
    · refine zo_aload_n hC dX8_isAt_52 rfl 1 rfl ?_
      refine zo_getR hC (r := 84) fk8_13 (by decide) gr_83_4 at_83 dX8_isAt_53 ?_
      refine zo_iload_n hC dX8_isAt_56 rfl 4 rfl ?_
      refine zo_iload hC dX8_isAt_57 7 rfl ?_
      refine zo_iadd hC dX8_isAt_59 ?_
      refine zo_as (fun h_5 => ?_)
      refine zo_iald hC ar_84 (e_ix_vp h_5) dX8_isAt_60 ?_
      refine zo_if_eq (tgt := 98) hC dX8_isAt_61 (by decide) (fun c_6 => ?_) (fun c_6 => ?_)
      · refine zo_sub [1, 2, 3, 4, 5, 7] (lv' := [(0, .ref 83), (1, .ref a1), (2, .int v2), (3, .int v3), (4, .int v4), (6, .int v6)]) rfl ?_
        exact Zf_X8_isAt_98 hC a1 ha1 I L v2 v3 v4 k19 k107 hk19 hk107 v6
      · refine zo_aload_n hC dX8_isAt_64 rfl 2 rfl ?_
        refine zo_iload_n hC dX8_isAt_65 rfl 3 rfl ?_
        refine zo_iload hC dX8_isAt_66 7 rfl ?_
        refine zo_iadd hC dX8_isAt_68 ?_
        refine zo_as (fun h_7 => ?_)
        refine zo_iald hC (e_ir_ar ha1) (e_ix_vp h_7) dX8_isAt_69 ?_
        refine zo_aload_n hC dX8_isAt_70 rfl 1 rfl ?_
        refine zo_getR hC (r := 84) fk8_13 (by decide) gr_83_4 at_83 dX8_isAt_71 ?_
        refine zo_iload_n hC dX8_isAt_74 rfl 4 rfl ?_
        refine zo_iload hC dX8_isAt_75 7 rfl ?_
        refine zo_iadd hC dX8_isAt_77 ?_
        refine zo_as (fun h_8 => ?_)
        refine zo_iald hC ar_84 (e_ix_vp h_8) dX8_isAt_78 ?_
        refine zo_icmp_ne (tgt := 98) hC dX8_isAt_79 (by decide) (fun c_9 => ?_) (fun c_9 => ?_)
        · refine zo_sub [1, 2, 3, 4, 5, 7] (lv' := [(0, .ref 83), (1, .ref a1), (2, .int v2), (3, .int v3), (4, .int v4), (6, .int v6)]) rfl ?_
          exact Zf_X8_isAt_98 hC a1 ha1 I L v2 v3 v4 k19 k107 hk19 hk107 v6
        · refine zo_goto (tgt := 94) hC dX8_isAt_82 (by decide) ?_
          refine zo_sub [1, 2, 3, 4, 5, 7] (lv' := [(0, .ref 83), (1, .ref a1), (2, .int v2), (3, .int v3), (4, .int v4), (6, .int v6)]) rfl ?_
          exact Zf_X8_isAt_94 hC a1 ha1 I L v2 v3 v4 k19 k107 hk19 hk107 v6

def f_X8_isAt_19 (a1 : Nat) (I : e_I) (v2 : Int32) (v3 : Int32) (v4 : Int32) (k107 : Int32 → Option (Int32)) : Nat → Int32 → Int32 → Option (Int32)
  | 0, _, _ => none
  | n + 1, v5, v6 =>
    if v6 ≥ 6 then (
      k107 v5)
    else (
      if (v3 + v6) ≥ v4 then (
        f_X8_isAt_40 a1 I v2 v3 v4 (fun v5 v6 => f_X8_isAt_19 a1 I v2 v3 v4 k107 n v5 v6) k107 v5 v6 0)
      else (
        f_X8_isAt_40 a1 I v2 v3 v4 (fun v5 v6 => f_X8_isAt_19 a1 I v2 v3 v4 k107 n v5 v6) k107 v5 v6 1))
set_option maxRecDepth 100000 in
set_option maxHeartbeats 4000000 in
theorem Zf_X8_isAt_19 {X : e_X} (hC : e_C X cX8_isAt RX8 8 (some .boolean) 0 gN) (a1 : Nat) (ha1 : e_ir a1) (I : e_I) (L : e_L) (v2 : Int32) (v3 : Int32) (v4 : Int32) (k107 : Int32 → Option (Int32)) (hk107 : ∀ (v5 : Int32), Zo X (ph_i I L) (k107 v5) 107 [(5, .int v5)] [] I L) : ∀ (n : Nat) (v5 : Int32) (v6 : Int32), Zo X (ph_i I L) (f_X8_isAt_19 a1 I v2 v3 v4 k107 n v5 v6) 19 [(0, .ref 83), (1, .ref a1), (2, .int v2), (3, .int v3), (4, .int v4), (5, .int v5), (6, .int v6)] [] I L := by
  intro n
  induction n with
  | zero => intro v5 v6 p hp; cases hp
  | succ n ih =>
    intro v5 v6
    unfold f_X8_isAt_19
    refine zo_iload hC dX8_isAt_19 6 rfl ?_
    refine zo_bipush (v := 6) hC (by decide) dX8_isAt_21 ?_
    refine zo_icmp_ge (tgt := 107) hC dX8_isAt_23 (by decide) (fun c_1 => ?_) (fun c_1 => ?_)
    · refine zo_sub [5] (lv' := [(5, .int v5)]) rfl ?_
      exact hk107 v5
    · refine zo_iload_n hC dX8_isAt_26 rfl 3 rfl ?_
      refine zo_iload hC dX8_isAt_27 6 rfl ?_
      refine zo_iadd hC dX8_isAt_29 ?_
      refine zo_iload hC dX8_isAt_30 4 rfl ?_
      refine zo_icmp_ge (tgt := 39) hC dX8_isAt_32 (by decide) (fun c_2 => ?_) (fun c_2 => ?_)
      · refine zo_iconst (v := 0) hC (by decide) dX8_isAt_39 ?_
        exact Zf_X8_isAt_40 hC a1 ha1 I L v2 v3 v4 (fun v5 v6 => f_X8_isAt_19 a1 I v2 v3 v4 k107 n v5 v6) k107 (fun v5 v6 => ih v5 v6) hk107 v5 v6 0
      · refine zo_iconst (v := 1) hC (by decide) dX8_isAt_35 ?_
        refine zo_goto (tgt := 40) hC dX8_isAt_36 (by decide) ?_
        exact Zf_X8_isAt_40 hC a1 ha1 I L v2 v3 v4 (fun v5 v6 => f_X8_isAt_19 a1 I v2 v3 v4 k107 n v5 v6) k107 (fun v5 v6 => ih v5 v6) hk107 v5 v6 1

def f_X8_isAt_14 (a1 : Nat) (I : e_I) (v2 : Int32) (v3 : Int32) (v4 : Int32) (s0 : Int32) : Option (Int32) :=
  f_X8_isAt_19 a1 I v2 v3 v4 (fun (v5_1 : Int32) =>
    e_as (v5_1 = 0 ∨ v5_1 = 1) (
    some v5_1)) e_FU s0 0
set_option maxRecDepth 100000 in
set_option maxHeartbeats 4000000 in
theorem Zf_X8_isAt_14 {X : e_X} (hC : e_C X cX8_isAt RX8 8 (some .boolean) 0 gN) (a1 : Nat) (ha1 : e_ir a1) (I : e_I) (L : e_L) (v2 : Int32) (v3 : Int32) (v4 : Int32) (s0 : Int32) : Zo X (ph_i I L) (f_X8_isAt_14 a1 I v2 v3 v4 s0) 14 [(0, .ref 83), (1, .ref a1), (2, .int v2), (3, .int v3), (4, .int v4)] [.int s0] I L := by
  unfold f_X8_isAt_14
  refine zo_istore (lv' := [(5, .int s0), (0, .ref 83), (1, .ref a1), (2, .int v2), (3, .int v3), (4, .int v4)]) hC dX8_isAt_14 (by decide) rfl ?_
  refine zo_iconst (v := 0) hC (by decide) dX8_isAt_16 ?_
  refine zo_istore (lv' := [(6, .int 0), (5, .int s0), (0, .ref 83), (1, .ref a1), (2, .int v2), (3, .int v3), (4, .int v4)]) hC dX8_isAt_17 (by decide) rfl ?_
  refine zo_sub [2, 3, 4, 5, 6, 1, 0] (lv' := [(0, .ref 83), (1, .ref a1), (2, .int v2), (3, .int v3), (4, .int v4), (5, .int s0), (6, .int 0)]) rfl ?_
  refine Zf_X8_isAt_19 hC a1 ha1 I L v2 v3 v4 _ (fun v5_1 => ?_) e_FU s0 0
  · refine zo_iload hC dX8_isAt_107 0 rfl ?_
    refine zo_as (fun h_2 => ?_)
    exact zo_zret hC h_2 rfl dX8_isAt_109

def f_X8_isAt (a1 : Nat) (v2 : Int32) (v3 : Int32) (v4 : Int32) (I : e_I) : Option (Int32) :=
  if (v4 - v3) > 6 then (
    f_X8_isAt_14 a1 I v2 v3 v4 0)
  else (
    f_X8_isAt_14 a1 I v2 v3 v4 1)
set_option maxRecDepth 100000 in
set_option maxHeartbeats 4000000 in
theorem Zf_X8_isAt {X : e_X} (hC : e_C X cX8_isAt RX8 8 (some .boolean) 0 gN) (a1 : Nat) (ha1 : e_ir a1) (v2 : Int32) (v3 : Int32) (v4 : Int32) (I : e_I) (L : e_L) : Zo X (ph_i I L) (f_X8_isAt a1 v2 v3 v4 I) 0 [(0, .ref 83), (1, .ref a1), (2, .int v2), (3, .int v3), (4, .int v4)] [] I L := by
  unfold f_X8_isAt
  refine zo_iload hC dX8_isAt_0 4 rfl ?_
  refine zo_iload_n hC dX8_isAt_2 rfl 3 rfl ?_
  refine zo_isub hC dX8_isAt_3 ?_
  refine zo_bipush (v := 6) hC (by decide) dX8_isAt_4 ?_
  refine zo_icmp_gt (tgt := 13) hC dX8_isAt_6 (by decide) (fun c_1 => ?_) (fun c_1 => ?_)
  · refine zo_iconst (v := 0) hC (by decide) dX8_isAt_13 ?_
    exact Zf_X8_isAt_14 hC a1 ha1 I L v2 v3 v4 0
  · refine zo_iconst (v := 1) hC (by decide) dX8_isAt_9 ?_
    refine zo_goto (tgt := 14) hC dX8_isAt_10 (by decide) ?_
    exact Zf_X8_isAt_14 hC a1 ha1 I L v2 v3 v4 1

theorem T_X8_isAt (a1 : Nat) (ha1 : e_ir a1) (v2 : Int32) (v3 : Int32) (v4 : Int32) (I : e_I) (L : e_L) (p : Int32) (hp : f_X8_isAt a1 v2 v3 v4 I = some p) : Mt yX8_isAt cX8_isAt 8 (some .boolean) 0 gN [.ref 83, .ref a1, .int v2, .int v3, .int v4] I L ((ph_i I L) p) := zo_enter hp (by decide) (Nat.le_of_ble_eq_true rfl) (fun X hC => Zf_X8_isAt hC a1 ha1 v2 v3 v4 I L)
def f_X8_takes (v1 : Int32) (v2 : Int32) (v3 : Int32) (I : e_I) : Option (Int32 × e_I) :=
  if (I 83 14) = 3 then (
    e_b1 (f_X8_in (I 83 15) v2 v3) (fun (r_2 : Int32) =>
    if r_2 ≠ 0 then (
      e_as (e_ix v1 396 = true) (
      e_let (e_ui I 86 v1.toNatClampNeg (I 83 15)) (fun (I_5 : e_I) =>
      e_b1 (f_X8_goesOn I_5) (fun (I_6 : e_I) =>
      some (1, I_6)))))
    else (
      e_b2 (f_X8_errs 2 I) (fun (r_7 : Int32) (I_8 : e_I) =>
      e_as (r_7 = 0 ∨ r_7 = 1) (
      some (r_7, I_8))))))
  else (
    e_b2 (f_X8_errs 1 I) (fun (r_10 : Int32) (I_11 : e_I) =>
    e_as (r_10 = 0 ∨ r_10 = 1) (
    some (r_10, I_11))))
set_option maxRecDepth 100000 in
set_option maxHeartbeats 4000000 in
theorem Zf_X8_takes {X : e_X} (hC : e_C X cX8_takes RX8 4 (some .boolean) 2 gN) (v1 : Int32) (v2 : Int32) (v3 : Int32) (I : e_I) (L : e_L) : Zo X (ph_iI L) (f_X8_takes v1 v2 v3 I) 0 [(0, .ref 83), (1, .int v1), (2, .int v2), (3, .int v3)] [] I L := by
  unfold f_X8_takes
  refine zo_aload_n hC dX8_takes_0 rfl 0 rfl ?_
  refine zo_getI hC fk8_80 at_83 dX8_takes_1 ?_
  refine zo_iconst (v := 3) hC (by decide) dX8_takes_4 ?_
  refine zo_icmp_eq (tgt := 14) hC dX8_takes_5 (by decide) (fun c_1 => ?_) (fun c_1 => ?_)
  · refine zo_aload_n hC dX8_takes_14 rfl 0 rfl ?_
    refine zo_getI hC fk8_87 at_83 dX8_takes_15 ?_
    refine zo_iload_n hC dX8_takes_18 rfl 2 rfl ?_
    refine zo_iload_n hC dX8_takes_19 rfl 3 rfl ?_
    refine zo_callS_i hC [.int (I 83 15), .int v2, .int v3] [] me_X8_in mlX8_83 sm_X8_in (fun p hp => T_X8_in (I 83 15) v2 v3 I L p hp) (by decide) rfl (Nat.le_of_ble_eq_true rfl) dX8_takes_20 rfl (fun r_2 => ?_)
    refine zo_if_ne (tgt := 32) hC dX8_takes_23 (by decide) (fun c_3 => ?_) (fun c_3 => ?_)
    · refine zo_aload_n hC dX8_takes_32 rfl 0 rfl ?_
      refine zo_getR hC (r := 86) fk8_20 (by decide) gr_83_8 at_83 dX8_takes_33 ?_
      refine zo_iload_n hC dX8_takes_36 rfl 1 rfl ?_
      refine zo_aload_n hC dX8_takes_37 rfl 0 rfl ?_
      refine zo_getI hC fk8_87 at_83 dX8_takes_38 ?_
      refine zo_as (fun h_4 => ?_)
      refine zo_iast hC ar_86 (e_ix_vp h_4) dX8_takes_41 ?_
      refine zo_topI (fun I_5 => ?_)
      refine zo_aload_n hC dX8_takes_42 rfl 0 rfl ?_
      refine zo_callV_vI hC (ci := 8) [] [] me_X8_goesOn mlX8_126 im_X8_goesOn se_X8_goesOn rfl (by decide) at_83 (fun p hp => T_X8_goesOn I_5 L p hp) (by decide) rfl (Nat.le_of_ble_eq_true rfl) dX8_takes_43 rfl (fun I_6 => ?_)
      refine zo_iconst (v := 1) hC (by decide) dX8_takes_46 ?_
      exact zo_zret hC (by decide) rfl dX8_takes_47
    · refine zo_aload_n hC dX8_takes_26 rfl 0 rfl ?_
      refine zo_iconst (v := 2) hC (by decide) dX8_takes_27 ?_
      refine zo_callV_iI hC (ci := 8) [.int 2] [] me_X8_errs mlX8_122 im_X8_errs se_X8_errs rfl (by decide) at_83 (fun p hp => T_X8_errs 2 I L p hp) (by decide) rfl (Nat.le_of_ble_eq_true rfl) dX8_takes_28 rfl (fun r_7 I_8 => ?_)
      refine zo_as (fun h_9 => ?_)
      exact zo_zret hC h_9 rfl dX8_takes_31
  · refine zo_aload_n hC dX8_takes_8 rfl 0 rfl ?_
    refine zo_iconst (v := 1) hC (by decide) dX8_takes_9 ?_
    refine zo_callV_iI hC (ci := 8) [.int 1] [] me_X8_errs mlX8_122 im_X8_errs se_X8_errs rfl (by decide) at_83 (fun p hp => T_X8_errs 1 I L p hp) (by decide) rfl (Nat.le_of_ble_eq_true rfl) dX8_takes_10 rfl (fun r_10 I_11 => ?_)
    refine zo_as (fun h_12 => ?_)
    exact zo_zret hC h_12 rfl dX8_takes_13

theorem T_X8_takes (v1 : Int32) (v2 : Int32) (v3 : Int32) (I : e_I) (L : e_L) (p : Int32 × e_I) (hp : f_X8_takes v1 v2 v3 I = some p) : Mt yX8_takes cX8_takes 4 (some .boolean) 2 gN [.ref 83, .int v1, .int v2, .int v3] I L ((ph_iI L) p) := zo_enter hp (by decide) (Nat.le_of_ble_eq_true rfl) (fun X hC => Zf_X8_takes hC v1 v2 v3 I L)
def f_X8_readBatter_38 (v1 : Int32) (k78 : e_I → Option (Int32 × e_I)) (k66 : e_I → Option (Int32 × e_I)) : Nat → Int32 → e_I → Option (Int32 × e_I)
  | 0, _, _ => none
  | n + 1, v2, I =>
    if v2 ≥ v1 then (
      k78 I)
    else (
      e_b1 (f_X8_isAt 88 ((6 : Int32) * v2) (I 83 12) (I 83 13) I) (fun (r_2 : Int32) =>
      if r_2 = 0 then (
        e_let (v2 + 1) (fun (x_4 : Int32) =>
        f_X8_readBatter_38 v1 k78 k66 n x_4 I))
      else (
        k66 I)))
set_option maxRecDepth 100000 in
set_option maxHeartbeats 4000000 in
theorem Zf_X8_readBatter_38 {X : e_X} (hC : e_C X cX8_readBatter RX8 5 (some .boolean) 6 gN) (L : e_L) (v1 : Int32) (k78 : e_I → Option (Int32 × e_I)) (k66 : e_I → Option (Int32 × e_I)) (hk78 : ∀ (I : e_I), Zo X (ph_iI L) (k78 I) 78 [(0, .ref 83), (1, .int v1)] [] I L) (hk66 : ∀ (I : e_I), Zo X (ph_iI L) (k66 I) 66 [(0, .ref 83)] [] I L) : ∀ (n : Nat) (v2 : Int32) (I : e_I), Zo X (ph_iI L) (f_X8_readBatter_38 v1 k78 k66 n v2 I) 38 [(0, .ref 83), (1, .int v1), (2, .int v2)] [] I L := by
  intro n
  induction n with
  | zero => intro v2 I p hp; cases hp
  | succ n ih =>
    intro v2 I
    unfold f_X8_readBatter_38
    refine zo_iload_n hC dX8_readBatter_38 rfl 2 rfl ?_
    refine zo_iload_n hC dX8_readBatter_39 rfl 1 rfl ?_
    refine zo_icmp_ge (tgt := 78) hC dX8_readBatter_40 (by decide) (fun c_1 => ?_) (fun c_1 => ?_)
    · refine zo_sub [0, 1] (lv' := [(0, .ref 83), (1, .int v1)]) rfl ?_
      exact hk78 I
    · refine zo_aload_n hC dX8_readBatter_43 rfl 0 rfl ?_
      refine zo_aload_n hC dX8_readBatter_44 rfl 0 rfl ?_
      refine zo_getR hC (r := 88) fk8_26 (by decide) gr_83_10 at_83 dX8_readBatter_45 ?_
      refine zo_bipush (v := 6) hC (by decide) dX8_readBatter_48 ?_
      refine zo_iload_n hC dX8_readBatter_50 rfl 2 rfl ?_
      refine zo_imul hC dX8_readBatter_51 ?_
      refine zo_aload_n hC dX8_readBatter_52 rfl 0 rfl ?_
      refine zo_getI hC fk8_77 at_83 dX8_readBatter_53 ?_
      refine zo_aload_n hC dX8_readBatter_56 rfl 0 rfl ?_
      refine zo_getI hC fk8_70 at_83 dX8_readBatter_57 ?_
      refine zo_callV_i hC (ci := 8) [.ref 88, .int ((6 : Int32) * v2), .int (I 83 12), .int (I 83 13)] [] me_X8_isAt mlX8_133 im_X8_isAt se_X8_isAt rfl (by decide) at_83 (fun p hp => T_X8_isAt 88 ir_88 ((6 : Int32) * v2) (I 83 12) (I 83 13) I L p hp) (by decide) rfl (Nat.le_of_ble_eq_true rfl) dX8_readBatter_60 rfl (fun r_2 => ?_)
      refine zo_if_eq (tgt := 72) hC dX8_readBatter_63 (by decide) (fun c_3 => ?_) (fun c_3 => ?_)
      · refine zo_iinc hC (x := v2) (fun x_4 => [(2, .int x_4), (0, .ref 83), (1, .int v1)]) dX8_readBatter_72 2 rfl (by rfl) (by decide) (fun _ => rfl) (fun x_4 => ?_)
        refine zo_goto (tgt := 38) hC dX8_readBatter_75 (by decide) ?_
        refine zo_sub [1, 2, 0] (lv' := [(0, .ref 83), (1, .int v1), (2, .int x_4)]) rfl ?_
        exact ih x_4 I
      · refine zo_sub [0] (lv' := [(0, .ref 83)]) rfl ?_
        exact hk66 I

def f_X8_readBatter_124 (v1 : Int32) (k80 : Int32 → e_I → Option (Int32 × e_I)) (k131 : e_I → Option (Int32 × e_I)) (v2 : Int32) (s0 : Int32) (s1 : Int32) (I : e_I) : Option (Int32 × e_I) :=
  e_as (e_ix s1 54 = true) (
  e_let (e_ui I 88 s1.toNatClampNeg s0) (fun (I_2 : e_I) =>
  e_let (v2 + 1) (fun (x_3 : Int32) =>
  k80 x_3 I_2)))
set_option maxRecDepth 100000 in
set_option maxHeartbeats 4000000 in
theorem Zf_X8_readBatter_124 {X : e_X} (hC : e_C X cX8_readBatter RX8 5 (some .boolean) 6 gN) (L : e_L) (v1 : Int32) (k80 : Int32 → e_I → Option (Int32 × e_I)) (k131 : e_I → Option (Int32 × e_I)) (hk80 : ∀ (v2 : Int32) (I : e_I), Zo X (ph_iI L) (k80 v2 I) 80 [(0, .ref 83), (1, .int v1), (2, .int v2)] [] I L) (hk131 : ∀ (I : e_I), Zo X (ph_iI L) (k131 I) 131 [(0, .ref 83), (1, .int v1)] [] I L) (v2 : Int32) (s0 : Int32) (s1 : Int32) (I : e_I) : Zo X (ph_iI L) (f_X8_readBatter_124 v1 k80 k131 v2 s0 s1 I) 124 [(0, .ref 83), (1, .int v1), (2, .int v2)] [.int s0, .int s1, .ref 88] I L := by
  unfold f_X8_readBatter_124
  refine zo_as (fun h_1 => ?_)
  refine zo_iast hC ar_88 (e_ix_vp h_1) dX8_readBatter_124 ?_
  refine zo_topI (fun I_2 => ?_)
  refine zo_iinc hC (x := v2) (fun x_3 => [(2, .int x_3), (0, .ref 83), (1, .int v1)]) dX8_readBatter_125 2 rfl (by rfl) (by decide) (fun _ => rfl) (fun x_3 => ?_)
  refine zo_goto (tgt := 80) hC dX8_readBatter_128 (by decide) ?_
  refine zo_sub [1, 2, 0] (lv' := [(0, .ref 83), (1, .int v1), (2, .int x_3)]) rfl ?_
  exact hk80 x_3 I_2

def f_X8_readBatter_80 (v1 : Int32) (k131 : e_I → Option (Int32 × e_I)) : Nat → Int32 → e_I → Option (Int32 × e_I)
  | 0, _, _ => none
  | n + 1, v2, I =>
    if v2 ≥ 6 then (
      k131 I)
    else (
      if ((I 83 12) + v2) ≥ (I 83 13) then (
        f_X8_readBatter_124 v1 (fun v2 I => f_X8_readBatter_80 v1 k131 n v2 I) k131 v2 0 (((6 : Int32) * v1) + v2) I)
      else (
        e_as (e_ix ((I 83 12) + v2) 500 = true) (
        f_X8_readBatter_124 v1 (fun v2 I => f_X8_readBatter_80 v1 k131 n v2 I) k131 v2 (I 84 ((I 83 12) + v2).toNatClampNeg) (((6 : Int32) * v1) + v2) I)))
set_option maxRecDepth 100000 in
set_option maxHeartbeats 4000000 in
theorem Zf_X8_readBatter_80 {X : e_X} (hC : e_C X cX8_readBatter RX8 5 (some .boolean) 6 gN) (L : e_L) (v1 : Int32) (k131 : e_I → Option (Int32 × e_I)) (hk131 : ∀ (I : e_I), Zo X (ph_iI L) (k131 I) 131 [(0, .ref 83), (1, .int v1)] [] I L) : ∀ (n : Nat) (v2 : Int32) (I : e_I), Zo X (ph_iI L) (f_X8_readBatter_80 v1 k131 n v2 I) 80 [(0, .ref 83), (1, .int v1), (2, .int v2)] [] I L := by
  intro n
  induction n with
  | zero => intro v2 I p hp; cases hp
  | succ n ih =>
    intro v2 I
    unfold f_X8_readBatter_80
    refine zo_iload_n hC dX8_readBatter_80 rfl 2 rfl ?_
    refine zo_bipush (v := 6) hC (by decide) dX8_readBatter_81 ?_
    refine zo_icmp_ge (tgt := 131) hC dX8_readBatter_83 (by decide) (fun c_1 => ?_) (fun c_1 => ?_)
    · refine zo_sub [0, 1] (lv' := [(0, .ref 83), (1, .int v1)]) rfl ?_
      exact hk131 I
    · refine zo_aload_n hC dX8_readBatter_86 rfl 0 rfl ?_
      refine zo_getR hC (r := 88) fk8_26 (by decide) gr_83_10 at_83 dX8_readBatter_87 ?_
      refine zo_bipush (v := 6) hC (by decide) dX8_readBatter_90 ?_
      refine zo_iload_n hC dX8_readBatter_92 rfl 1 rfl ?_
      refine zo_imul hC dX8_readBatter_93 ?_
      refine zo_iload_n hC dX8_readBatter_94 rfl 2 rfl ?_
      refine zo_iadd hC dX8_readBatter_95 ?_
      refine zo_aload_n hC dX8_readBatter_96 rfl 0 rfl ?_
      refine zo_getI hC fk8_77 at_83 dX8_readBatter_97 ?_
      refine zo_iload_n hC dX8_readBatter_100 rfl 2 rfl ?_
      refine zo_iadd hC dX8_readBatter_101 ?_
      refine zo_aload_n hC dX8_readBatter_102 rfl 0 rfl ?_
      refine zo_getI hC fk8_70 at_83 dX8_readBatter_103 ?_
      refine zo_icmp_ge (tgt := 123) hC dX8_readBatter_106 (by decide) (fun c_2 => ?_) (fun c_2 => ?_)
      · refine zo_iconst (v := 0) hC (by decide) dX8_readBatter_123 ?_
        exact Zf_X8_readBatter_124 hC L v1 (fun v2 I => f_X8_readBatter_80 v1 k131 n v2 I) k131 (fun v2 I => ih v2 I) hk131 v2 0 (((6 : Int32) * v1) + v2) I
      · refine zo_aload_n hC dX8_readBatter_109 rfl 0 rfl ?_
        refine zo_getR hC (r := 84) fk8_13 (by decide) gr_83_4 at_83 dX8_readBatter_110 ?_
        refine zo_aload_n hC dX8_readBatter_113 rfl 0 rfl ?_
        refine zo_getI hC fk8_77 at_83 dX8_readBatter_114 ?_
        refine zo_iload_n hC dX8_readBatter_117 rfl 2 rfl ?_
        refine zo_iadd hC dX8_readBatter_118 ?_
        refine zo_as (fun h_3 => ?_)
        refine zo_iald hC ar_84 (e_ix_vp h_3) dX8_readBatter_119 ?_
        refine zo_goto (tgt := 124) hC dX8_readBatter_120 (by decide) ?_
        exact Zf_X8_readBatter_124 hC L v1 (fun v2 I => f_X8_readBatter_80 v1 k131 n v2 I) k131 (fun v2 I => ih v2 I) hk131 v2 (I 84 ((I 83 12) + v2).toNatClampNeg) (((6 : Int32) * v1) + v2) I

def f_X8_readBatter_172 (v1 : Int32) (k140 : Int32 → Int32 → e_I → Option (Int32 × e_I)) (k229 : e_I → Option (Int32 × e_I)) (k179 : e_I → Option (Int32 × e_I)) (k204 : e_I → Option (Int32 × e_I)) (v2 : Int32) (v3 : Int32) (s0 : Int32) (I : e_I) : Option (Int32 × e_I) :=
  if s0 = 0 then (
    e_b2 (f_X8_takes (((6 : Int32) + ((6 : Int32) * v1)) + v3) 0 20 I) (fun (r_2 : Int32) (I_3 : e_I) =>
    if r_2 ≠ 0 then (
      e_as (e_ix (((6 : Int32) + ((6 : Int32) * v1)) + v3) 396 = true) (
      e_let (v2 - (I_3 86 (((6 : Int32) + ((6 : Int32) * v1)) + v3).toNatClampNeg)) (fun (x_6 : Int32) =>
      e_let (v3 + 1) (fun (x_7 : Int32) =>
      k140 x_6 x_7 I_3))))
    else (
      k204 I_3)))
  else (
    k179 I)
set_option maxRecDepth 100000 in
set_option maxHeartbeats 4000000 in
theorem Zf_X8_readBatter_172 {X : e_X} (hC : e_C X cX8_readBatter RX8 5 (some .boolean) 6 gN) (L : e_L) (v1 : Int32) (k140 : Int32 → Int32 → e_I → Option (Int32 × e_I)) (k229 : e_I → Option (Int32 × e_I)) (k179 : e_I → Option (Int32 × e_I)) (k204 : e_I → Option (Int32 × e_I)) (hk140 : ∀ (v2 : Int32) (v3 : Int32) (I : e_I), Zo X (ph_iI L) (k140 v2 v3 I) 140 [(0, .ref 83), (1, .int v1), (2, .int v2), (3, .int v3)] [] I L) (hk229 : ∀ (I : e_I), Zo X (ph_iI L) (k229 I) 229 [(0, .ref 83), (1, .int v1)] [] I L) (hk179 : ∀ (I : e_I), Zo X (ph_iI L) (k179 I) 179 [(0, .ref 83)] [] I L) (hk204 : ∀ (I : e_I), Zo X (ph_iI L) (k204 I) 204 [] [] I L) (v2 : Int32) (v3 : Int32) (s0 : Int32) (I : e_I) : Zo X (ph_iI L) (f_X8_readBatter_172 v1 k140 k229 k179 k204 v2 v3 s0 I) 172 [(0, .ref 83), (1, .int v1), (2, .int v2), (3, .int v3)] [.int s0] I L := by
  unfold f_X8_readBatter_172
  refine zo_istore (lv' := [(4, .int s0), (0, .ref 83), (1, .int v1), (2, .int v2), (3, .int v3)]) hC dX8_readBatter_172 (by decide) rfl ?_
  refine zo_iload hC dX8_readBatter_174 0 rfl ?_
  refine zo_if_eq (tgt := 185) hC dX8_readBatter_176 (by decide) (fun c_1 => ?_) (fun c_1 => ?_)
  · refine zo_aload_n hC dX8_readBatter_185 rfl 1 rfl ?_
    refine zo_bipush (v := 6) hC (by decide) dX8_readBatter_186 ?_
    refine zo_bipush (v := 6) hC (by decide) dX8_readBatter_188 ?_
    refine zo_iload_n hC dX8_readBatter_190 rfl 2 rfl ?_
    refine zo_imul hC dX8_readBatter_191 ?_
    refine zo_iadd hC dX8_readBatter_192 ?_
    refine zo_iload_n hC dX8_readBatter_193 rfl 4 rfl ?_
    refine zo_iadd hC dX8_readBatter_194 ?_
    refine zo_iconst (v := 0) hC (by decide) dX8_readBatter_195 ?_
    refine zo_bipush (v := 20) hC (by decide) dX8_readBatter_196 ?_
    refine zo_callV_iI hC (ci := 8) [.int (((6 : Int32) + ((6 : Int32) * v1)) + v3), .int 0, .int 20] [] me_X8_takes mlX8_137 im_X8_takes se_X8_takes rfl (by decide) at_83 (fun p hp => T_X8_takes (((6 : Int32) + ((6 : Int32) * v1)) + v3) 0 20 I L p hp) (by decide) rfl (Nat.le_of_ble_eq_true rfl) dX8_readBatter_198 rfl (fun r_2 I_3 => ?_)
    refine zo_if_ne (tgt := 206) hC dX8_readBatter_201 (by decide) (fun c_4 => ?_) (fun c_4 => ?_)
    · refine zo_iload_n hC dX8_readBatter_206 rfl 3 rfl ?_
      refine zo_aload_n hC dX8_readBatter_207 rfl 1 rfl ?_
      refine zo_getR hC (r := 86) fk8_20 (by decide) gr_83_8 at_83 dX8_readBatter_208 ?_
      refine zo_bipush (v := 6) hC (by decide) dX8_readBatter_211 ?_
      refine zo_bipush (v := 6) hC (by decide) dX8_readBatter_213 ?_
      refine zo_iload_n hC dX8_readBatter_215 rfl 2 rfl ?_
      refine zo_imul hC dX8_readBatter_216 ?_
      refine zo_iadd hC dX8_readBatter_217 ?_
      refine zo_iload_n hC dX8_readBatter_218 rfl 4 rfl ?_
      refine zo_iadd hC dX8_readBatter_219 ?_
      refine zo_as (fun h_5 => ?_)
      refine zo_iald hC ar_86 (e_ix_vp h_5) dX8_readBatter_220 ?_
      refine zo_isub hC dX8_readBatter_221 ?_
      refine zo_topi (fun x_6 => ?_)
      refine zo_istore_n (lv' := [(2, .int x_6), (4, .int s0), (0, .ref 83), (1, .int v1), (3, .int v3)]) hC dX8_readBatter_222 rfl (by decide) rfl ?_
      refine zo_iinc hC (x := v3) (fun x_7 => [(3, .int x_7), (2, .int x_6), (4, .int s0), (0, .ref 83), (1, .int v1)]) dX8_readBatter_223 4 rfl (by rfl) (by decide) (fun _ => rfl) (fun x_7 => ?_)
      refine zo_goto (tgt := 140) hC dX8_readBatter_226 (by decide) ?_
      refine zo_sub [3, 4, 1, 0] (lv' := [(0, .ref 83), (1, .int v1), (2, .int x_6), (3, .int x_7)]) rfl ?_
      exact hk140 x_6 x_7 I_3
    · refine zo_sub [] (lv' := []) rfl ?_
      exact hk204 I_3
  · refine zo_sub [1] (lv' := [(0, .ref 83)]) rfl ?_
    exact hk179 I

def f_X8_readBatter_171 (v1 : Int32) (k140 : Int32 → Int32 → e_I → Option (Int32 × e_I)) (k229 : e_I → Option (Int32 × e_I)) (k179 : e_I → Option (Int32 × e_I)) (k204 : e_I → Option (Int32 × e_I)) (v2 : Int32) (v3 : Int32) (I : e_I) : Option (Int32 × e_I) :=
  f_X8_readBatter_172 v1 k140 k229 k179 k204 v2 v3 0 I
set_option maxRecDepth 100000 in
set_option maxHeartbeats 4000000 in
theorem Zf_X8_readBatter_171 {X : e_X} (hC : e_C X cX8_readBatter RX8 5 (some .boolean) 6 gN) (L : e_L) (v1 : Int32) (k140 : Int32 → Int32 → e_I → Option (Int32 × e_I)) (k229 : e_I → Option (Int32 × e_I)) (k179 : e_I → Option (Int32 × e_I)) (k204 : e_I → Option (Int32 × e_I)) (hk140 : ∀ (v2 : Int32) (v3 : Int32) (I : e_I), Zo X (ph_iI L) (k140 v2 v3 I) 140 [(0, .ref 83), (1, .int v1), (2, .int v2), (3, .int v3)] [] I L) (hk229 : ∀ (I : e_I), Zo X (ph_iI L) (k229 I) 229 [(0, .ref 83), (1, .int v1)] [] I L) (hk179 : ∀ (I : e_I), Zo X (ph_iI L) (k179 I) 179 [(0, .ref 83)] [] I L) (hk204 : ∀ (I : e_I), Zo X (ph_iI L) (k204 I) 204 [] [] I L) (v2 : Int32) (v3 : Int32) (I : e_I) : Zo X (ph_iI L) (f_X8_readBatter_171 v1 k140 k229 k179 k204 v2 v3 I) 171 [(0, .ref 83), (1, .int v1), (2, .int v2), (3, .int v3)] [] I L := by
  unfold f_X8_readBatter_171
  refine zo_iconst (v := 0) hC (by decide) dX8_readBatter_171 ?_
  exact Zf_X8_readBatter_172 hC L v1 k140 k229 k179 k204 hk140 hk229 hk179 hk204 v2 v3 0 I

def f_X8_readBatter_140 (v1 : Int32) (k229 : e_I → Option (Int32 × e_I)) (k179 : e_I → Option (Int32 × e_I)) (k204 : e_I → Option (Int32 × e_I)) : Nat → Int32 → Int32 → e_I → Option (Int32 × e_I)
  | 0, _, _, _ => none
  | n + 1, v2, v3, I =>
    if v3 ≥ 6 then (
      k229 I)
    else (
      if v3 ≠ 5 then (
        f_X8_readBatter_171 v1 (fun v2 v3 I => f_X8_readBatter_140 v1 k229 k179 k204 n v2 v3 I) k229 k179 k204 v2 v3 I)
      else (
        if (I 83 14) ≠ 3 then (
          f_X8_readBatter_171 v1 (fun v2 v3 I => f_X8_readBatter_140 v1 k229 k179 k204 n v2 v3 I) k229 k179 k204 v2 v3 I)
        else (
          if (I 83 15) = v2 then (
            f_X8_readBatter_171 v1 (fun v2 v3 I => f_X8_readBatter_140 v1 k229 k179 k204 n v2 v3 I) k229 k179 k204 v2 v3 I)
          else (
            f_X8_readBatter_172 v1 (fun v2 v3 I => f_X8_readBatter_140 v1 k229 k179 k204 n v2 v3 I) k229 k179 k204 v2 v3 1 I))))
set_option maxRecDepth 100000 in
set_option maxHeartbeats 4000000 in
theorem Zf_X8_readBatter_140 {X : e_X} (hC : e_C X cX8_readBatter RX8 5 (some .boolean) 6 gN) (L : e_L) (v1 : Int32) (k229 : e_I → Option (Int32 × e_I)) (k179 : e_I → Option (Int32 × e_I)) (k204 : e_I → Option (Int32 × e_I)) (hk229 : ∀ (I : e_I), Zo X (ph_iI L) (k229 I) 229 [(0, .ref 83), (1, .int v1)] [] I L) (hk179 : ∀ (I : e_I), Zo X (ph_iI L) (k179 I) 179 [(0, .ref 83)] [] I L) (hk204 : ∀ (I : e_I), Zo X (ph_iI L) (k204 I) 204 [] [] I L) : ∀ (n : Nat) (v2 : Int32) (v3 : Int32) (I : e_I), Zo X (ph_iI L) (f_X8_readBatter_140 v1 k229 k179 k204 n v2 v3 I) 140 [(0, .ref 83), (1, .int v1), (2, .int v2), (3, .int v3)] [] I L := by
  intro n
  induction n with
  | zero => intro v2 v3 I p hp; cases hp
  | succ n ih =>
    intro v2 v3 I
    unfold f_X8_readBatter_140
    refine zo_iload_n hC dX8_readBatter_140 rfl 3 rfl ?_
    refine zo_bipush (v := 6) hC (by decide) dX8_readBatter_141 ?_
    refine zo_icmp_ge (tgt := 229) hC dX8_readBatter_143 (by decide) (fun c_1 => ?_) (fun c_1 => ?_)
    · refine zo_sub [0, 1] (lv' := [(0, .ref 83), (1, .int v1)]) rfl ?_
      exact hk229 I
    · refine zo_iload_n hC dX8_readBatter_146 rfl 3 rfl ?_
      refine zo_iconst (v := 5) hC (by decide) dX8_readBatter_147 ?_
      refine zo_icmp_ne (tgt := 171) hC dX8_readBatter_148 (by decide) (fun c_2 => ?_) (fun c_2 => ?_)
      · exact Zf_X8_readBatter_171 hC L v1 (fun v2 v3 I => f_X8_readBatter_140 v1 k229 k179 k204 n v2 v3 I) k229 k179 k204 (fun v2 v3 I => ih v2 v3 I) hk229 hk179 hk204 v2 v3 I
      · refine zo_aload_n hC dX8_readBatter_151 rfl 0 rfl ?_
        refine zo_getI hC fk8_80 at_83 dX8_readBatter_152 ?_
        refine zo_iconst (v := 3) hC (by decide) dX8_readBatter_155 ?_
        refine zo_icmp_ne (tgt := 171) hC dX8_readBatter_156 (by decide) (fun c_3 => ?_) (fun c_3 => ?_)
        · exact Zf_X8_readBatter_171 hC L v1 (fun v2 v3 I => f_X8_readBatter_140 v1 k229 k179 k204 n v2 v3 I) k229 k179 k204 (fun v2 v3 I => ih v2 v3 I) hk229 hk179 hk204 v2 v3 I
        · refine zo_aload_n hC dX8_readBatter_159 rfl 0 rfl ?_
          refine zo_getI hC fk8_87 at_83 dX8_readBatter_160 ?_
          refine zo_iload_n hC dX8_readBatter_163 rfl 2 rfl ?_
          refine zo_icmp_eq (tgt := 171) hC dX8_readBatter_164 (by decide) (fun c_4 => ?_) (fun c_4 => ?_)
          · exact Zf_X8_readBatter_171 hC L v1 (fun v2 v3 I => f_X8_readBatter_140 v1 k229 k179 k204 n v2 v3 I) k229 k179 k204 (fun v2 v3 I => ih v2 v3 I) hk229 hk179 hk204 v2 v3 I
          · refine zo_iconst (v := 1) hC (by decide) dX8_readBatter_167 ?_
            refine zo_goto (tgt := 172) hC dX8_readBatter_168 (by decide) ?_
            exact Zf_X8_readBatter_172 hC L v1 (fun v2 v3 I => f_X8_readBatter_140 v1 k229 k179 k204 n v2 v3 I) k229 k179 k204 (fun v2 v3 I => ih v2 v3 I) hk229 hk179 hk204 v2 v3 1 I

def f_X8_readBatter (I : e_I) : Option (Int32 × e_I) :=
  e_let (I 86 (0 : Int32).toNatClampNeg) (fun (x_1 : Int32) =>
  if x_1 ≠ 9 then (
    e_b1 (f_X8_goesOn I) (fun (I_3 : e_I) =>
    e_b1 (f_X8_isName I_3) (fun (r_4 : Int32) =>
    if r_4 ≠ 0 then (
      f_X8_readBatter_38 x_1 (fun (I_6 : e_I) =>
        f_X8_readBatter_80 x_1 (fun (I_7 : e_I) =>
          e_b1 (f_X8_goesOn I_7) (fun (I_8 : e_I) =>
          f_X8_readBatter_140 x_1 (fun (I_9 : e_I) =>
            e_as (e_ix ((60 : Int32) + x_1) 396 = true) (
            e_let (e_ui I_9 86 ((60 : Int32) + x_1).toNatClampNeg x_1) (fun (I_11 : e_I) =>
            e_let (e_ui I_11 86 (0 : Int32).toNatClampNeg ((I_11 86 (0 : Int32).toNatClampNeg) + 1)) (fun (I_12 : e_I) =>
            some (1, I_12))))) (fun (I_13 : e_I) =>
            e_b2 (f_X8_errs 2 I_13) (fun (r_14 : Int32) (I_15 : e_I) =>
            e_as (r_14 = 0 ∨ r_14 = 1) (
            some (r_14, I_15)))) (fun (I_17 : e_I) =>
            some (0, I_17)) e_FU 20 0 I_8)) e_FU 0 I_6) (fun (I_18 : e_I) =>
        e_b2 (f_X8_errs 3 I_18) (fun (r_19 : Int32) (I_20 : e_I) =>
        e_as (r_19 = 0 ∨ r_19 = 1) (
        some (r_19, I_20)))) e_FU 0 I_3)
    else (
      e_b2 (f_X8_errs 1 I_3) (fun (r_22 : Int32) (I_23 : e_I) =>
      e_as (r_22 = 0 ∨ r_22 = 1) (
      some (r_22, I_23)))))))
  else (
    e_b2 (f_X8_errs 4 I) (fun (r_25 : Int32) (I_26 : e_I) =>
    e_as (r_25 = 0 ∨ r_25 = 1) (
    some (r_25, I_26)))))
set_option maxRecDepth 100000 in
set_option maxHeartbeats 4000000 in
theorem Zf_X8_readBatter {X : e_X} (hC : e_C X cX8_readBatter RX8 5 (some .boolean) 6 gN) (I : e_I) (L : e_L) : Zo X (ph_iI L) (f_X8_readBatter I) 0 [(0, .ref 83)] [] I L := by
  unfold f_X8_readBatter
  refine zo_aload_n hC dX8_readBatter_0 rfl 0 rfl ?_
  refine zo_getR hC (r := 86) fk8_20 (by decide) gr_83_8 at_83 dX8_readBatter_1 ?_
  refine zo_iconst (v := 0) hC (by decide) dX8_readBatter_4 ?_
  refine zo_iald hC ar_86 (e_ix_vp (by decide)) dX8_readBatter_5 ?_
  refine zo_topi (fun x_1 => ?_)
  refine zo_istore_n (lv' := [(1, .int x_1), (0, .ref 83)]) hC dX8_readBatter_6 rfl (by decide) rfl ?_
  refine zo_iload_n hC dX8_readBatter_7 rfl 0 rfl ?_
  refine zo_bipush (v := 9) hC (by decide) dX8_readBatter_8 ?_
  refine zo_icmp_ne (tgt := 19) hC dX8_readBatter_10 (by decide) (fun c_2 => ?_) (fun c_2 => ?_)
  · refine zo_aload_n hC dX8_readBatter_19 rfl 1 rfl ?_
    refine zo_callV_vI hC (ci := 8) [] [] me_X8_goesOn mlX8_126 im_X8_goesOn se_X8_goesOn rfl (by decide) at_83 (fun p hp => T_X8_goesOn I L p hp) (by decide) rfl (Nat.le_of_ble_eq_true rfl) dX8_readBatter_20 rfl (fun I_3 => ?_)
    refine zo_aload_n hC dX8_readBatter_23 rfl 1 rfl ?_
    refine zo_callV_i hC (ci := 8) [] [] me_X8_isName mlX8_129 im_X8_isName se_X8_isName rfl (by decide) at_83 (fun p hp => T_X8_isName I_3 L p hp) (by decide) rfl (Nat.le_of_ble_eq_true rfl) dX8_readBatter_24 rfl (fun r_4 => ?_)
    refine zo_if_ne (tgt := 36) hC dX8_readBatter_27 (by decide) (fun c_5 => ?_) (fun c_5 => ?_)
    · refine zo_iconst (v := 0) hC (by decide) dX8_readBatter_36 ?_
      refine zo_istore_n (lv' := [(2, .int 0), (1, .int x_1), (0, .ref 83)]) hC dX8_readBatter_37 rfl (by decide) rfl ?_
      refine zo_sub [2, 1, 0] (lv' := [(0, .ref 83), (1, .int x_1), (2, .int 0)]) rfl ?_
      refine Zf_X8_readBatter_38 hC L x_1 _ _ (fun I_6 => ?_) (fun I_18 => ?_) e_FU 0 I_3
      · refine zo_iconst (v := 0) hC (by decide) dX8_readBatter_78 ?_
        refine zo_istore_n (lv' := [(2, .int 0), (0, .ref 83), (1, .int x_1)]) hC dX8_readBatter_79 rfl (by decide) rfl ?_
        refine zo_sub [1, 2, 0] (lv' := [(0, .ref 83), (1, .int x_1), (2, .int 0)]) rfl ?_
        refine Zf_X8_readBatter_80 hC L x_1 _ (fun I_7 => ?_) e_FU 0 I_6
        · refine zo_aload_n hC dX8_readBatter_131 rfl 0 rfl ?_
          refine zo_callV_vI hC (ci := 8) [] [] me_X8_goesOn mlX8_126 im_X8_goesOn se_X8_goesOn rfl (by decide) at_83 (fun p hp => T_X8_goesOn I_7 L p hp) (by decide) rfl (Nat.le_of_ble_eq_true rfl) dX8_readBatter_132 rfl (fun I_8 => ?_)
          refine zo_bipush (v := 20) hC (by decide) dX8_readBatter_135 ?_
          refine zo_istore_n (lv' := [(2, .int 20), (0, .ref 83), (1, .int x_1)]) hC dX8_readBatter_137 rfl (by decide) rfl ?_
          refine zo_iconst (v := 0) hC (by decide) dX8_readBatter_138 ?_
          refine zo_istore_n (lv' := [(3, .int 0), (2, .int 20), (0, .ref 83), (1, .int x_1)]) hC dX8_readBatter_139 rfl (by decide) rfl ?_
          refine zo_sub [2, 3, 1, 0] (lv' := [(0, .ref 83), (1, .int x_1), (2, .int 20), (3, .int 0)]) rfl ?_
          refine Zf_X8_readBatter_140 hC L x_1 _ _ _ (fun I_9 => ?_) (fun I_13 => ?_) (fun I_17 => ?_) e_FU 20 0 I_8
          · refine zo_aload_n hC dX8_readBatter_229 rfl 0 rfl ?_
            refine zo_getR hC (r := 86) fk8_20 (by decide) gr_83_8 at_83 dX8_readBatter_230 ?_
            refine zo_bipush (v := 60) hC (by decide) dX8_readBatter_233 ?_
            refine zo_iload_n hC dX8_readBatter_235 rfl 1 rfl ?_
            refine zo_iadd hC dX8_readBatter_236 ?_
            refine zo_iload_n hC dX8_readBatter_237 rfl 1 rfl ?_
            refine zo_as (fun h_10 => ?_)
            refine zo_iast hC ar_86 (e_ix_vp h_10) dX8_readBatter_238 ?_
            refine zo_topI (fun I_11 => ?_)
            refine zo_aload_n hC dX8_readBatter_239 rfl 0 rfl ?_
            refine zo_getR hC (r := 86) fk8_20 (by decide) gr_83_8 at_83 dX8_readBatter_240 ?_
            refine zo_iconst (v := 0) hC (by decide) dX8_readBatter_243 ?_
            refine zo_dup2 hC rfl rfl dX8_readBatter_244 ?_
            refine zo_iald hC ar_86 (e_ix_vp (by decide)) dX8_readBatter_245 ?_
            refine zo_iconst (v := 1) hC (by decide) dX8_readBatter_246 ?_
            refine zo_iadd hC dX8_readBatter_247 ?_
            refine zo_iast hC ar_86 (e_ix_vp (by decide)) dX8_readBatter_248 ?_
            refine zo_topI (fun I_12 => ?_)
            refine zo_iconst (v := 1) hC (by decide) dX8_readBatter_249 ?_
            exact zo_zret hC (by decide) rfl dX8_readBatter_250
          · refine zo_aload_n hC dX8_readBatter_179 rfl 0 rfl ?_
            refine zo_iconst (v := 2) hC (by decide) dX8_readBatter_180 ?_
            refine zo_callV_iI hC (ci := 8) [.int 2] [] me_X8_errs mlX8_122 im_X8_errs se_X8_errs rfl (by decide) at_83 (fun p hp => T_X8_errs 2 I_13 L p hp) (by decide) rfl (Nat.le_of_ble_eq_true rfl) dX8_readBatter_181 rfl (fun r_14 I_15 => ?_)
            refine zo_as (fun h_16 => ?_)
            exact zo_zret hC h_16 rfl dX8_readBatter_184
          · refine zo_iconst (v := 0) hC (by decide) dX8_readBatter_204 ?_
            exact zo_zret hC (by decide) rfl dX8_readBatter_205
      · refine zo_aload_n hC dX8_readBatter_66 rfl 0 rfl ?_
        refine zo_iconst (v := 3) hC (by decide) dX8_readBatter_67 ?_
        refine zo_callV_iI hC (ci := 8) [.int 3] [] me_X8_errs mlX8_122 im_X8_errs se_X8_errs rfl (by decide) at_83 (fun p hp => T_X8_errs 3 I_18 L p hp) (by decide) rfl (Nat.le_of_ble_eq_true rfl) dX8_readBatter_68 rfl (fun r_19 I_20 => ?_)
        refine zo_as (fun h_21 => ?_)
        exact zo_zret hC h_21 rfl dX8_readBatter_71
    · refine zo_aload_n hC dX8_readBatter_30 rfl 1 rfl ?_
      refine zo_iconst (v := 1) hC (by decide) dX8_readBatter_31 ?_
      refine zo_callV_iI hC (ci := 8) [.int 1] [] me_X8_errs mlX8_122 im_X8_errs se_X8_errs rfl (by decide) at_83 (fun p hp => T_X8_errs 1 I_3 L p hp) (by decide) rfl (Nat.le_of_ble_eq_true rfl) dX8_readBatter_32 rfl (fun r_22 I_23 => ?_)
      refine zo_as (fun h_24 => ?_)
      exact zo_zret hC h_24 rfl dX8_readBatter_35
  · refine zo_aload_n hC dX8_readBatter_13 rfl 1 rfl ?_
    refine zo_iconst (v := 4) hC (by decide) dX8_readBatter_14 ?_
    refine zo_callV_iI hC (ci := 8) [.int 4] [] me_X8_errs mlX8_122 im_X8_errs se_X8_errs rfl (by decide) at_83 (fun p hp => T_X8_errs 4 I L p hp) (by decide) rfl (Nat.le_of_ble_eq_true rfl) dX8_readBatter_15 rfl (fun r_25 I_26 => ?_)
    refine zo_as (fun h_27 => ?_)
    exact zo_zret hC h_27 rfl dX8_readBatter_18

theorem T_X8_readBatter (I : e_I) (L : e_L) (p : Int32 × e_I) (hp : f_X8_readBatter I = some p) : Mt yX8_readBatter cX8_readBatter 5 (some .boolean) 6 gN [.ref 83] I L ((ph_iI L) p) := zo_enter hp (by decide) (Nat.le_of_ble_eq_true rfl) (fun X hC => Zf_X8_readBatter hC I L)
def f_X8_lowOf_23 (s0 : Int32) : Option (Int32) :=
  some s0
set_option maxRecDepth 100000 in
set_option maxHeartbeats 4000000 in
theorem Zf_X8_lowOf_23 {X : e_X} (hC : e_C X cX8_lowOf RX8 1 (some .int) 0 gN) (I : e_I) (L : e_L) (s0 : Int32) : Zo X (ph_i I L) (f_X8_lowOf_23 s0) 23 [] [.int s0] I L := by
  unfold f_X8_lowOf_23
  exact zo_iret hC rfl dX8_lowOf_23

def f_X8_lowOf_9 : Option (Int32) :=
  f_X8_lowOf_23 1
set_option maxRecDepth 100000 in
set_option maxHeartbeats 4000000 in
theorem Zf_X8_lowOf_9 {X : e_X} (hC : e_C X cX8_lowOf RX8 1 (some .int) 0 gN) (I : e_I) (L : e_L) : Zo X (ph_i I L) (f_X8_lowOf_9) 9 [] [] I L := by
  unfold f_X8_lowOf_9
  refine zo_iconst (v := 1) hC (by decide) dX8_lowOf_9 ?_
  refine zo_goto (tgt := 23) hC dX8_lowOf_10 (by decide) ?_
  exact Zf_X8_lowOf_23 hC I L 1

def f_X8_lowOf (v0 : Int32) : Option (Int32) :=
  if v0 = 0 then (
    f_X8_lowOf_9 )
  else (
    if v0 ≠ 4 then (
      if v0 ≠ 1 then (
        f_X8_lowOf_23 0)
      else (
        f_X8_lowOf_23 2))
    else (
      f_X8_lowOf_9 ))
set_option maxRecDepth 100000 in
set_option maxHeartbeats 4000000 in
theorem Zf_X8_lowOf {X : e_X} (hC : e_C X cX8_lowOf RX8 1 (some .int) 0 gN) (v0 : Int32) (I : e_I) (L : e_L) : Zo X (ph_i I L) (f_X8_lowOf v0) 0 [(0, .int v0)] [] I L := by
  unfold f_X8_lowOf
  refine zo_iload_n hC dX8_lowOf_0 rfl 0 rfl ?_
  refine zo_if_eq (tgt := 9) hC dX8_lowOf_1 (by decide) (fun c_1 => ?_) (fun c_1 => ?_)
  · refine zo_sub [] (lv' := []) rfl ?_
    exact Zf_X8_lowOf_9 hC I L 
  · refine zo_iload_n hC dX8_lowOf_4 rfl 0 rfl ?_
    refine zo_iconst (v := 4) hC (by decide) dX8_lowOf_5 ?_
    refine zo_icmp_ne (tgt := 13) hC dX8_lowOf_6 (by decide) (fun c_2 => ?_) (fun c_2 => ?_)
    · refine zo_iload_n hC dX8_lowOf_13 rfl 0 rfl ?_
      refine zo_iconst (v := 1) hC (by decide) dX8_lowOf_14 ?_
      refine zo_icmp_ne (tgt := 22) hC dX8_lowOf_15 (by decide) (fun c_3 => ?_) (fun c_3 => ?_)
      · refine zo_iconst (v := 0) hC (by decide) dX8_lowOf_22 ?_
        refine zo_sub [] (lv' := []) rfl ?_
        exact Zf_X8_lowOf_23 hC I L 0
      · refine zo_iconst (v := 2) hC (by decide) dX8_lowOf_18 ?_
        refine zo_goto (tgt := 23) hC dX8_lowOf_19 (by decide) ?_
        refine zo_sub [] (lv' := []) rfl ?_
        exact Zf_X8_lowOf_23 hC I L 2
    · refine zo_sub [] (lv' := []) rfl ?_
      exact Zf_X8_lowOf_9 hC I L 

theorem T_X8_lowOf (v0 : Int32) (I : e_I) (L : e_L) (p : Int32) (hp : f_X8_lowOf v0 = some p) : Mt yX8_lowOf cX8_lowOf 1 (some .int) 0 gN [.int v0] I L ((ph_i I L) p) := zo_enter hp (by decide) (Nat.le_of_ble_eq_true rfl) (fun X hC => Zf_X8_lowOf hC v0 I L)
def f_X8_highOf_38 (s0 : Int32) : Option (Int32) :=
  some s0
set_option maxRecDepth 100000 in
set_option maxHeartbeats 4000000 in
theorem Zf_X8_highOf_38 {X : e_X} (hC : e_C X cX8_highOf RX8 1 (some .int) 0 gN) (I : e_I) (L : e_L) (s0 : Int32) : Zo X (ph_i I L) (f_X8_highOf_38 s0) 38 [] [.int s0] I L := by
  unfold f_X8_highOf_38
  exact zo_iret hC rfl dX8_highOf_38

def f_X8_highOf (v0 : Int32) : Option (Int32) :=
  if v0 ≠ 0 then (
    if v0 ≠ 1 then (
      if v0 ≠ 2 then (
        if v0 ≠ 3 then (
          f_X8_highOf_38 99)
        else (
          f_X8_highOf_38 20))
      else (
        f_X8_highOf_38 1))
    else (
      f_X8_highOf_38 3))
  else (
    f_X8_highOf_38 2)
set_option maxRecDepth 100000 in
set_option maxHeartbeats 4000000 in
theorem Zf_X8_highOf {X : e_X} (hC : e_C X cX8_highOf RX8 1 (some .int) 0 gN) (v0 : Int32) (I : e_I) (L : e_L) : Zo X (ph_i I L) (f_X8_highOf v0) 0 [(0, .int v0)] [] I L := by
  unfold f_X8_highOf
  refine zo_iload_n hC dX8_highOf_0 rfl 0 rfl ?_
  refine zo_if_ne (tgt := 8) hC dX8_highOf_1 (by decide) (fun c_1 => ?_) (fun c_1 => ?_)
  · refine zo_iload_n hC dX8_highOf_8 rfl 0 rfl ?_
    refine zo_iconst (v := 1) hC (by decide) dX8_highOf_9 ?_
    refine zo_icmp_ne (tgt := 17) hC dX8_highOf_10 (by decide) (fun c_2 => ?_) (fun c_2 => ?_)
    · refine zo_iload_n hC dX8_highOf_17 rfl 0 rfl ?_
      refine zo_iconst (v := 2) hC (by decide) dX8_highOf_18 ?_
      refine zo_icmp_ne (tgt := 26) hC dX8_highOf_19 (by decide) (fun c_3 => ?_) (fun c_3 => ?_)
      · refine zo_iload_n hC dX8_highOf_26 rfl 0 rfl ?_
        refine zo_iconst (v := 3) hC (by decide) dX8_highOf_27 ?_
        refine zo_icmp_ne (tgt := 36) hC dX8_highOf_28 (by decide) (fun c_4 => ?_) (fun c_4 => ?_)
        · refine zo_bipush (v := 99) hC (by decide) dX8_highOf_36 ?_
          refine zo_sub [] (lv' := []) rfl ?_
          exact Zf_X8_highOf_38 hC I L 99
        · refine zo_bipush (v := 20) hC (by decide) dX8_highOf_31 ?_
          refine zo_goto (tgt := 38) hC dX8_highOf_33 (by decide) ?_
          refine zo_sub [] (lv' := []) rfl ?_
          exact Zf_X8_highOf_38 hC I L 20
      · refine zo_iconst (v := 1) hC (by decide) dX8_highOf_22 ?_
        refine zo_goto (tgt := 38) hC dX8_highOf_23 (by decide) ?_
        refine zo_sub [] (lv' := []) rfl ?_
        exact Zf_X8_highOf_38 hC I L 1
    · refine zo_iconst (v := 3) hC (by decide) dX8_highOf_13 ?_
      refine zo_goto (tgt := 38) hC dX8_highOf_14 (by decide) ?_
      refine zo_sub [] (lv' := []) rfl ?_
      exact Zf_X8_highOf_38 hC I L 3
  · refine zo_iconst (v := 2) hC (by decide) dX8_highOf_4 ?_
    refine zo_goto (tgt := 38) hC dX8_highOf_5 (by decide) ?_
    refine zo_sub [] (lv' := []) rfl ?_
    exact Zf_X8_highOf_38 hC I L 2

theorem T_X8_highOf (v0 : Int32) (I : e_I) (L : e_L) (p : Int32) (hp : f_X8_highOf v0 = some p) : Mt yX8_highOf cX8_highOf 1 (some .int) 0 gN [.int v0] I L ((ph_i I L) p) := zo_enter hp (by decide) (Nat.le_of_ble_eq_true rfl) (fun X hC => Zf_X8_highOf hC v0 I L)
