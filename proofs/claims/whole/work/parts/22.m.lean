def f_X8_allCome_50 (v1 : Int32) (v2 : Int32) (k2 : Int32 → e_I → Option (e_I)) (k56 : e_I → Option (e_I)) (v3 : Int32) (I : e_I) : Option (e_I) :=
  e_let (v3 + 1) (fun (x_1 : Int32) =>
  k2 x_1 I)
set_option maxRecDepth 100000 in
set_option maxHeartbeats 4000000 in
theorem Zf_X8_allCome_50 {X : e_X} (hC : e_C X cX8_allCome RX8 4 none 0 gN) (L : e_L) (v1 : Int32) (v2 : Int32) (k2 : Int32 → e_I → Option (e_I)) (k56 : e_I → Option (e_I)) (hk2 : ∀ (v3 : Int32) (I : e_I), Zo X (ph_vI L) (k2 v3 I) 2 [(0, .ref 83), (1, .int v1), (2, .int v2), (3, .int v3)] [] I L) (hk56 : ∀ (I : e_I), Zo X (ph_vI L) (k56 I) 56 [] [] I L) (v3 : Int32) (I : e_I) : Zo X (ph_vI L) (f_X8_allCome_50 v1 v2 k2 k56 v3 I) 50 [(0, .ref 83), (1, .int v1), (2, .int v2), (3, .int v3)] [] I L := by
  unfold f_X8_allCome_50
  refine zo_iinc hC (x := v3) (fun x_1 => [(3, .int x_1), (0, .ref 83), (1, .int v1), (2, .int v2)]) dX8_allCome_50 3 rfl (by rfl) (by decide) (fun _ => rfl) (fun x_1 => ?_)
  refine zo_goto (tgt := 2) hC dX8_allCome_53 (by decide) ?_
  refine zo_sub [1, 2, 3, 0] (lv' := [(0, .ref 83), (1, .int v1), (2, .int v2), (3, .int x_1)]) rfl ?_
  exact hk2 x_1 I

def f_X8_allCome_2 (v1 : Int32) (v2 : Int32) (k56 : e_I → Option (e_I)) : Nat → Int32 → e_I → Option (e_I)
  | 0, _, _ => none
  | n + 1, v3, I =>
    if v3 ≥ 3 then (
      k56 I)
    else (
      if ((v1 >>> (v3 &&& 31)) &&& 1) ≠ 1 then (
        f_X8_allCome_50 v1 v2 (fun v3 I => f_X8_allCome_2 v1 v2 k56 n v3 I) k56 v3 I)
      else (
        if (v3 + v2) < 3 then (
          e_let (e_ui I 83 19 ((I 83 19) ||| ((1 : Int32) <<< ((v3 + v2) &&& 31)))) (fun (I_4 : e_I) =>
          f_X8_allCome_50 v1 v2 (fun v3 I => f_X8_allCome_2 v1 v2 k56 n v3 I) k56 v3 I_4))
        else (
          e_let (e_ui I 83 21 ((I 83 21) + 1)) (fun (I_5 : e_I) =>
          f_X8_allCome_50 v1 v2 (fun v3 I => f_X8_allCome_2 v1 v2 k56 n v3 I) k56 v3 I_5))))
set_option maxRecDepth 100000 in
set_option maxHeartbeats 4000000 in
theorem Zf_X8_allCome_2 {X : e_X} (hC : e_C X cX8_allCome RX8 4 none 0 gN) (L : e_L) (v1 : Int32) (v2 : Int32) (k56 : e_I → Option (e_I)) (hk56 : ∀ (I : e_I), Zo X (ph_vI L) (k56 I) 56 [] [] I L) : ∀ (n : Nat) (v3 : Int32) (I : e_I), Zo X (ph_vI L) (f_X8_allCome_2 v1 v2 k56 n v3 I) 2 [(0, .ref 83), (1, .int v1), (2, .int v2), (3, .int v3)] [] I L := by
  intro n
  induction n with
  | zero => intro v3 I p hp; cases hp
  | succ n ih =>
    intro v3 I
    unfold f_X8_allCome_2
    refine zo_iload_n hC dX8_allCome_2 rfl 3 rfl ?_
    refine zo_iconst (v := 3) hC (by decide) dX8_allCome_3 ?_
    refine zo_icmp_ge (tgt := 56) hC dX8_allCome_4 (by decide) (fun c_1 => ?_) (fun c_1 => ?_)
    · refine zo_sub [] (lv' := []) rfl ?_
      exact hk56 I
    · refine zo_iload_n hC dX8_allCome_7 rfl 1 rfl ?_
      refine zo_iload_n hC dX8_allCome_8 rfl 3 rfl ?_
      refine zo_ishr hC dX8_allCome_9 ?_
      refine zo_iconst (v := 1) hC (by decide) dX8_allCome_10 ?_
      refine zo_iand hC dX8_allCome_11 ?_
      refine zo_iconst (v := 1) hC (by decide) dX8_allCome_12 ?_
      refine zo_icmp_ne (tgt := 50) hC dX8_allCome_13 (by decide) (fun c_2 => ?_) (fun c_2 => ?_)
      · exact Zf_X8_allCome_50 hC L v1 v2 (fun v3 I => f_X8_allCome_2 v1 v2 k56 n v3 I) k56 (fun v3 I => ih v3 I) hk56 v3 I
      · refine zo_iload_n hC dX8_allCome_16 rfl 3 rfl ?_
        refine zo_iload_n hC dX8_allCome_17 rfl 2 rfl ?_
        refine zo_iadd hC dX8_allCome_18 ?_
        refine zo_iconst (v := 3) hC (by decide) dX8_allCome_19 ?_
        refine zo_icmp_lt (tgt := 36) hC dX8_allCome_20 (by decide) (fun c_3 => ?_) (fun c_3 => ?_)
        · refine zo_aload_n hC dX8_allCome_36 rfl 0 rfl ?_
          refine zo_dup hC rfl dX8_allCome_37 ?_
          refine zo_getI hC fk8_209 at_83 dX8_allCome_38 ?_
          refine zo_iconst (v := 1) hC (by decide) dX8_allCome_41 ?_
          refine zo_iload_n hC dX8_allCome_42 rfl 3 rfl ?_
          refine zo_iload_n hC dX8_allCome_43 rfl 2 rfl ?_
          refine zo_iadd hC dX8_allCome_44 ?_
          refine zo_ishl hC dX8_allCome_45 ?_
          refine zo_ior hC dX8_allCome_46 ?_
          refine zo_putI hC fk8_209 ff8_19 at_83 dX8_allCome_47 ?_
          refine zo_topI (fun I_4 => ?_)
          exact Zf_X8_allCome_50 hC L v1 v2 (fun v3 I => f_X8_allCome_2 v1 v2 k56 n v3 I) k56 (fun v3 I => ih v3 I) hk56 v3 I_4
        · refine zo_aload_n hC dX8_allCome_23 rfl 0 rfl ?_
          refine zo_dup hC rfl dX8_allCome_24 ?_
          refine zo_getI hC fk8_206 at_83 dX8_allCome_25 ?_
          refine zo_iconst (v := 1) hC (by decide) dX8_allCome_28 ?_
          refine zo_iadd hC dX8_allCome_29 ?_
          refine zo_putI hC fk8_206 ff8_21 at_83 dX8_allCome_30 ?_
          refine zo_topI (fun I_5 => ?_)
          refine zo_goto (tgt := 50) hC dX8_allCome_33 (by decide) ?_
          exact Zf_X8_allCome_50 hC L v1 v2 (fun v3 I => f_X8_allCome_2 v1 v2 k56 n v3 I) k56 (fun v3 I => ih v3 I) hk56 v3 I_5

def f_X8_allCome (v1 : Int32) (v2 : Int32) (I : e_I) : Option (e_I) :=
  f_X8_allCome_2 v1 v2 (fun (I_1 : e_I) =>
    some I_1) e_FU 0 I
set_option maxRecDepth 100000 in
set_option maxHeartbeats 4000000 in
theorem Zf_X8_allCome {X : e_X} (hC : e_C X cX8_allCome RX8 4 none 0 gN) (v1 : Int32) (v2 : Int32) (I : e_I) (L : e_L) : Zo X (ph_vI L) (f_X8_allCome v1 v2 I) 0 [(0, .ref 83), (1, .int v1), (2, .int v2)] [] I L := by
  unfold f_X8_allCome
  refine zo_iconst (v := 0) hC (by decide) dX8_allCome_0 ?_
  refine zo_istore_n (lv' := [(3, .int 0), (0, .ref 83), (1, .int v1), (2, .int v2)]) hC dX8_allCome_1 rfl (by decide) rfl ?_
  refine zo_sub [1, 2, 3, 0] (lv' := [(0, .ref 83), (1, .int v1), (2, .int v2), (3, .int 0)]) rfl ?_
  refine Zf_X8_allCome_2 hC L v1 v2 _ (fun I_1 => ?_) e_FU 0 I
  · exact zo_vret hC rfl dX8_allCome_56

theorem T_X8_allCome (v1 : Int32) (v2 : Int32) (I : e_I) (L : e_L) (p : e_I) (hp : f_X8_allCome v1 v2 I = some p) : Mt yX8_allCome cX8_allCome 4 none 0 gN [.ref 83, .int v1, .int v2] I L ((ph_vI L) p) := zo_enter hp (by decide) (Nat.le_of_ble_eq_true rfl) (fun X hC => Zf_X8_allCome hC v1 v2 I L)
def f_X8_walks_32 (v1 : Int32) (s0 : Int32) (I : e_I) : Option (e_I) :=
  e_let (e_ui I 83 19 (v1 &&& (s0 ^^^ (-1)))) (fun (I_1 : e_I) =>
  e_b1 (f_X8_allCome s0 1 I_1) (fun (I_2 : e_I) =>
  e_let (e_ui I_2 83 19 ((I_2 83 19) ||| 1)) (fun (I_3 : e_I) =>
  some I_3)))
set_option maxRecDepth 100000 in
set_option maxHeartbeats 4000000 in
theorem Zf_X8_walks_32 {X : e_X} (hC : e_C X cX8_walks RX8 3 none 1 gN) (L : e_L) (v1 : Int32) (s0 : Int32) (I : e_I) : Zo X (ph_vI L) (f_X8_walks_32 v1 s0 I) 32 [(0, .ref 83), (1, .int v1)] [.int s0] I L := by
  unfold f_X8_walks_32
  refine zo_istore_n (lv' := [(2, .int s0), (0, .ref 83), (1, .int v1)]) hC dX8_walks_32 rfl (by decide) rfl ?_
  refine zo_aload_n hC dX8_walks_33 rfl 1 rfl ?_
  refine zo_iload_n hC dX8_walks_34 rfl 2 rfl ?_
  refine zo_iload_n hC dX8_walks_35 rfl 0 rfl ?_
  refine zo_iconst (v := (-1)) hC (by decide) dX8_walks_36 ?_
  refine zo_ixor hC dX8_walks_37 ?_
  refine zo_iand hC dX8_walks_38 ?_
  refine zo_putI hC fk8_209 ff8_19 at_83 dX8_walks_39 ?_
  refine zo_topI (fun I_1 => ?_)
  refine zo_aload_n hC dX8_walks_42 rfl 1 rfl ?_
  refine zo_iload_n hC dX8_walks_43 rfl 0 rfl ?_
  refine zo_iconst (v := 1) hC (by decide) dX8_walks_44 ?_
  refine zo_callV_vI hC (ci := 8) [.int s0, .int 1] [] me_X8_allCome mlX8_212 im_X8_allCome se_X8_allCome rfl (by decide) at_83 (fun p hp => T_X8_allCome s0 1 I_1 L p hp) (by decide) rfl (Nat.le_of_ble_eq_true rfl) dX8_walks_45 rfl (fun I_2 => ?_)
  refine zo_aload_n hC dX8_walks_48 rfl 1 rfl ?_
  refine zo_dup hC rfl dX8_walks_49 ?_
  refine zo_getI hC fk8_209 at_83 dX8_walks_50 ?_
  refine zo_iconst (v := 1) hC (by decide) dX8_walks_53 ?_
  refine zo_ior hC dX8_walks_54 ?_
  refine zo_putI hC fk8_209 ff8_19 at_83 dX8_walks_55 ?_
  refine zo_topI (fun I_3 => ?_)
  exact zo_vret hC rfl dX8_walks_58

def f_X8_walks (v1 : Int32) (I : e_I) : Option (e_I) :=
  if (v1 &&& 1) ≠ 0 then (
    if (v1 &&& 2) ≠ 0 then (
      if (v1 &&& 4) ≠ 0 then (
        f_X8_walks_32 v1 7 I)
      else (
        f_X8_walks_32 v1 3 I))
    else (
      f_X8_walks_32 v1 1 I))
  else (
    f_X8_walks_32 v1 0 I)
set_option maxRecDepth 100000 in
set_option maxHeartbeats 4000000 in
theorem Zf_X8_walks {X : e_X} (hC : e_C X cX8_walks RX8 3 none 1 gN) (v1 : Int32) (I : e_I) (L : e_L) : Zo X (ph_vI L) (f_X8_walks v1 I) 0 [(0, .ref 83), (1, .int v1)] [] I L := by
  unfold f_X8_walks
  refine zo_iload_n hC dX8_walks_0 rfl 1 rfl ?_
  refine zo_iconst (v := 1) hC (by decide) dX8_walks_1 ?_
  refine zo_iand hC dX8_walks_2 ?_
  refine zo_if_ne (tgt := 10) hC dX8_walks_3 (by decide) (fun c_1 => ?_) (fun c_1 => ?_)
  · refine zo_iload_n hC dX8_walks_10 rfl 1 rfl ?_
    refine zo_iconst (v := 2) hC (by decide) dX8_walks_11 ?_
    refine zo_iand hC dX8_walks_12 ?_
    refine zo_if_ne (tgt := 20) hC dX8_walks_13 (by decide) (fun c_2 => ?_) (fun c_2 => ?_)
    · refine zo_iload_n hC dX8_walks_20 rfl 1 rfl ?_
      refine zo_iconst (v := 4) hC (by decide) dX8_walks_21 ?_
      refine zo_iand hC dX8_walks_22 ?_
      refine zo_if_ne (tgt := 30) hC dX8_walks_23 (by decide) (fun c_3 => ?_) (fun c_3 => ?_)
      · refine zo_bipush (v := 7) hC (by decide) dX8_walks_30 ?_
        exact Zf_X8_walks_32 hC L v1 7 I
      · refine zo_iconst (v := 3) hC (by decide) dX8_walks_26 ?_
        refine zo_goto (tgt := 32) hC dX8_walks_27 (by decide) ?_
        exact Zf_X8_walks_32 hC L v1 3 I
    · refine zo_iconst (v := 1) hC (by decide) dX8_walks_16 ?_
      refine zo_goto (tgt := 32) hC dX8_walks_17 (by decide) ?_
      exact Zf_X8_walks_32 hC L v1 1 I
  · refine zo_iconst (v := 0) hC (by decide) dX8_walks_6 ?_
    refine zo_goto (tgt := 32) hC dX8_walks_7 (by decide) ?_
    exact Zf_X8_walks_32 hC L v1 0 I

theorem T_X8_walks (v1 : Int32) (I : e_I) (L : e_L) (p : e_I) (hp : f_X8_walks v1 I = some p) : Mt yX8_walks cX8_walks 3 none 1 gN [.ref 83, .int v1] I L ((ph_vI L) p) := zo_enter hp (by decide) (Nat.le_of_ble_eq_true rfl) (fun X hC => Zf_X8_walks hC v1 I L)
def f_X8_canBe_36 (s0 : Int32) : Option (Int32) :=
  e_as (s0 = 0 ∨ s0 = 1) (
  some s0)
set_option maxRecDepth 100000 in
set_option maxHeartbeats 4000000 in
theorem Zf_X8_canBe_36 {X : e_X} (hC : e_C X cX8_canBe RX8 3 (some .boolean) 0 gN) (I : e_I) (L : e_L) (s0 : Int32) : Zo X (ph_i I L) (f_X8_canBe_36 s0) 36 [] [.int s0] I L := by
  unfold f_X8_canBe_36
  refine zo_as (fun h_1 => ?_)
  exact zo_zret hC h_1 rfl dX8_canBe_36

def f_X8_canBe_31 : Option (Int32) :=
  f_X8_canBe_36 1
set_option maxRecDepth 100000 in
set_option maxHeartbeats 4000000 in
theorem Zf_X8_canBe_31 {X : e_X} (hC : e_C X cX8_canBe RX8 3 (some .boolean) 0 gN) (I : e_I) (L : e_L) : Zo X (ph_i I L) (f_X8_canBe_31) 31 [] [] I L := by
  unfold f_X8_canBe_31
  refine zo_iconst (v := 1) hC (by decide) dX8_canBe_31 ?_
  refine zo_goto (tgt := 36) hC dX8_canBe_32 (by decide) ?_
  exact Zf_X8_canBe_36 hC I L 1

def f_X8_canBe_35 : Option (Int32) :=
  f_X8_canBe_36 0
set_option maxRecDepth 100000 in
set_option maxHeartbeats 4000000 in
theorem Zf_X8_canBe_35 {X : e_X} (hC : e_C X cX8_canBe RX8 3 (some .boolean) 0 gN) (I : e_I) (L : e_L) : Zo X (ph_i I L) (f_X8_canBe_35) 35 [] [] I L := by
  unfold f_X8_canBe_35
  refine zo_iconst (v := 0) hC (by decide) dX8_canBe_35 ?_
  exact Zf_X8_canBe_36 hC I L 0

def f_X8_canBe (v0 : Int32) (v1 : Int32) (v2 : Int32) : Option (Int32) :=
  if v2 < 6 then (
    f_X8_canBe_31 )
  else (
    if v2 ≠ 6 then (
      if (v0 &&& 3) ≠ 1 then (
        f_X8_canBe_35 )
      else (
        f_X8_canBe_31 ))
    else (
      if v0 = 0 then (
        f_X8_canBe_35 )
      else (
        if v1 ≥ 2 then (
          f_X8_canBe_35 )
        else (
          f_X8_canBe_31 ))))
set_option maxRecDepth 100000 in
set_option maxHeartbeats 4000000 in
theorem Zf_X8_canBe {X : e_X} (hC : e_C X cX8_canBe RX8 3 (some .boolean) 0 gN) (v0 : Int32) (v1 : Int32) (v2 : Int32) (I : e_I) (L : e_L) : Zo X (ph_i I L) (f_X8_canBe v0 v1 v2) 0 [(0, .int v0), (1, .int v1), (2, .int v2)] [] I L := by
  unfold f_X8_canBe
  refine zo_iload_n hC dX8_canBe_0 rfl 2 rfl ?_
  refine zo_bipush (v := 6) hC (by decide) dX8_canBe_1 ?_
  refine zo_icmp_lt (tgt := 31) hC dX8_canBe_3 (by decide) (fun c_1 => ?_) (fun c_1 => ?_)
  · refine zo_sub [] (lv' := []) rfl ?_
    exact Zf_X8_canBe_31 hC I L 
  · refine zo_iload_n hC dX8_canBe_6 rfl 2 rfl ?_
    refine zo_bipush (v := 6) hC (by decide) dX8_canBe_7 ?_
    refine zo_icmp_ne (tgt := 24) hC dX8_canBe_9 (by decide) (fun c_2 => ?_) (fun c_2 => ?_)
    · refine zo_iload_n hC dX8_canBe_24 rfl 0 rfl ?_
      refine zo_iconst (v := 3) hC (by decide) dX8_canBe_25 ?_
      refine zo_iand hC dX8_canBe_26 ?_
      refine zo_iconst (v := 1) hC (by decide) dX8_canBe_27 ?_
      refine zo_icmp_ne (tgt := 35) hC dX8_canBe_28 (by decide) (fun c_3 => ?_) (fun c_3 => ?_)
      · refine zo_sub [] (lv' := []) rfl ?_
        exact Zf_X8_canBe_35 hC I L 
      · refine zo_sub [] (lv' := []) rfl ?_
        exact Zf_X8_canBe_31 hC I L 
    · refine zo_iload_n hC dX8_canBe_12 rfl 0 rfl ?_
      refine zo_if_eq (tgt := 35) hC dX8_canBe_13 (by decide) (fun c_4 => ?_) (fun c_4 => ?_)
      · refine zo_sub [] (lv' := []) rfl ?_
        exact Zf_X8_canBe_35 hC I L 
      · refine zo_iload_n hC dX8_canBe_16 rfl 1 rfl ?_
        refine zo_iconst (v := 2) hC (by decide) dX8_canBe_17 ?_
        refine zo_icmp_ge (tgt := 35) hC dX8_canBe_18 (by decide) (fun c_5 => ?_) (fun c_5 => ?_)
        · refine zo_sub [] (lv' := []) rfl ?_
          exact Zf_X8_canBe_35 hC I L 
        · refine zo_goto (tgt := 31) hC dX8_canBe_21 (by decide) ?_
          refine zo_sub [] (lv' := []) rfl ?_
          exact Zf_X8_canBe_31 hC I L 

theorem T_X8_canBe (v0 : Int32) (v1 : Int32) (v2 : Int32) (I : e_I) (L : e_L) (p : Int32) (hp : f_X8_canBe v0 v1 v2 = some p) : Mt yX8_canBe cX8_canBe 3 (some .boolean) 0 gN [.int v0, .int v1, .int v2] I L ((ph_i I L) p) := zo_enter hp (by decide) (Nat.le_of_ble_eq_true rfl) (fun X hC => Zf_X8_canBe hC v0 v1 v2 I L)
def f_X8_comes_274 (s0 : Int32) (I : e_I) : Option (e_I) :=
  e_let (e_ui I 83 19 s0) (fun (I_1 : e_I) =>
  some I_1)
set_option maxRecDepth 100000 in
set_option maxHeartbeats 4000000 in
theorem Zf_X8_comes_274 {X : e_X} (hC : e_C X cX8_comes RX8 5 none 2 gN) (L : e_L) (s0 : Int32) (I : e_I) : Zo X (ph_vI L) (f_X8_comes_274 s0 I) 274 [] [.int s0, .ref 83] I L := by
  unfold f_X8_comes_274
  refine zo_putI hC fk8_209 ff8_19 at_83 dX8_comes_274 ?_
  refine zo_topI (fun I_1 => ?_)
  exact zo_vret hC rfl dX8_comes_277

def f_X8_comes_257 (I : e_I) : Option (e_I) :=
  if (I 83 20) ≠ 3 then (
    f_X8_comes_274 (I 83 19) I)
  else (
    f_X8_comes_274 0 I)
set_option maxRecDepth 100000 in
set_option maxHeartbeats 4000000 in
theorem Zf_X8_comes_257 {X : e_X} (hC : e_C X cX8_comes RX8 5 none 2 gN) (L : e_L) (I : e_I) : Zo X (ph_vI L) (f_X8_comes_257 I) 257 [(0, .ref 83)] [] I L := by
  unfold f_X8_comes_257
  refine zo_aload_n hC dX8_comes_257 rfl 0 rfl ?_
  refine zo_aload_n hC dX8_comes_258 rfl 0 rfl ?_
  refine zo_getI hC fk8_216 at_83 dX8_comes_259 ?_
  refine zo_iconst (v := 3) hC (by decide) dX8_comes_262 ?_
  refine zo_icmp_ne (tgt := 270) hC dX8_comes_263 (by decide) (fun c_1 => ?_) (fun c_1 => ?_)
  · refine zo_aload_n hC dX8_comes_270 rfl 0 rfl ?_
    refine zo_getI hC fk8_209 at_83 dX8_comes_271 ?_
    refine zo_sub [] (lv' := []) rfl ?_
    exact Zf_X8_comes_274 hC L (I 83 19) I
  · refine zo_iconst (v := 0) hC (by decide) dX8_comes_266 ?_
    refine zo_goto (tgt := 274) hC dX8_comes_267 (by decide) ?_
    refine zo_sub [] (lv' := []) rfl ?_
    exact Zf_X8_comes_274 hC L 0 I

def f_X8_comes_90 (s0 : Int32) (s1 : Int32) (I : e_I) : Option (e_I) :=
  e_let (e_ui I 83 19 (s1 ||| s0)) (fun (I_1 : e_I) =>
  f_X8_comes_257 I_1)
set_option maxRecDepth 100000 in
set_option maxHeartbeats 4000000 in
theorem Zf_X8_comes_90 {X : e_X} (hC : e_C X cX8_comes RX8 5 none 2 gN) (L : e_L) (s0 : Int32) (s1 : Int32) (I : e_I) : Zo X (ph_vI L) (f_X8_comes_90 s0 s1 I) 90 [(0, .ref 83)] [.int s0, .int s1, .ref 83] I L := by
  unfold f_X8_comes_90
  refine zo_ior hC dX8_comes_90 ?_
  refine zo_putI hC fk8_209 ff8_19 at_83 dX8_comes_91 ?_
  refine zo_topI (fun I_1 => ?_)
  refine zo_goto (tgt := 257) hC dX8_comes_94 (by decide) ?_
  exact Zf_X8_comes_257 hC L I_1

def f_X8_comes_60 (v1 : Int32) (v3 : Int32) (I : e_I) : Option (e_I) :=
  e_as (e_ix (((1 : Int32) + v3) - 2) 396 = true) (
  e_b1 (f_X8_allCome v1 (I 85 (((1 : Int32) + v3) - 2).toNatClampNeg) I) (fun (I_2 : e_I) =>
  if v3 ≠ 2 then (
    f_X8_comes_90 2 (I_2 83 19) I_2)
  else (
    f_X8_comes_90 1 (I_2 83 19) I_2)))
set_option maxRecDepth 100000 in
set_option maxHeartbeats 4000000 in
theorem Zf_X8_comes_60 {X : e_X} (hC : e_C X cX8_comes RX8 5 none 2 gN) (L : e_L) (v1 : Int32) (v3 : Int32) (I : e_I) : Zo X (ph_vI L) (f_X8_comes_60 v1 v3 I) 60 [(0, .ref 83), (1, .int v1), (3, .int v3)] [] I L := by
  unfold f_X8_comes_60
  refine zo_aload_n hC dX8_comes_60 rfl 0 rfl ?_
  refine zo_iload_n hC dX8_comes_61 rfl 1 rfl ?_
  refine zo_aload_n hC dX8_comes_62 rfl 0 rfl ?_
  refine zo_getR hC (r := 85) fk8_17 (by decide) gr_83_7 at_83 dX8_comes_63 ?_
  refine zo_iconst (v := 1) hC (by decide) dX8_comes_66 ?_
  refine zo_iload_n hC dX8_comes_67 rfl 2 rfl ?_
  refine zo_iadd hC dX8_comes_68 ?_
  refine zo_iconst (v := 2) hC (by decide) dX8_comes_69 ?_
  refine zo_isub hC dX8_comes_70 ?_
  refine zo_as (fun h_1 => ?_)
  refine zo_iald hC ar_85 (e_ix_vp h_1) dX8_comes_71 ?_
  refine zo_callV_vI hC (ci := 8) [.int v1, .int (I 85 (((1 : Int32) + v3) - 2).toNatClampNeg)] [] me_X8_allCome mlX8_212 im_X8_allCome se_X8_allCome rfl (by decide) at_83 (fun p hp => T_X8_allCome v1 (I 85 (((1 : Int32) + v3) - 2).toNatClampNeg) I L p hp) (by decide) rfl (Nat.le_of_ble_eq_true rfl) dX8_comes_72 rfl (fun I_2 => ?_)
  refine zo_aload_n hC dX8_comes_75 rfl 0 rfl ?_
  refine zo_dup hC rfl dX8_comes_76 ?_
  refine zo_getI hC fk8_209 at_83 dX8_comes_77 ?_
  refine zo_iload_n hC dX8_comes_80 rfl 2 rfl ?_
  refine zo_iconst (v := 2) hC (by decide) dX8_comes_81 ?_
  refine zo_icmp_ne (tgt := 89) hC dX8_comes_82 (by decide) (fun c_3 => ?_) (fun c_3 => ?_)
  · refine zo_iconst (v := 2) hC (by decide) dX8_comes_89 ?_
    refine zo_sub [0] (lv' := [(0, .ref 83)]) rfl ?_
    exact Zf_X8_comes_90 hC L 2 (I_2 83 19) I_2
  · refine zo_iconst (v := 1) hC (by decide) dX8_comes_85 ?_
    refine zo_goto (tgt := 90) hC dX8_comes_86 (by decide) ?_
    refine zo_sub [0] (lv' := [(0, .ref 83)]) rfl ?_
    exact Zf_X8_comes_90 hC L 1 (I_2 83 19) I_2

def f_X8_comes_147 (s0 : Int32) (s1 : Int32) (I : e_I) : Option (e_I) :=
  e_let (e_ui I 83 21 (s1 + s0)) (fun (I_1 : e_I) =>
  f_X8_comes_257 I_1)
set_option maxRecDepth 100000 in
set_option maxHeartbeats 4000000 in
theorem Zf_X8_comes_147 {X : e_X} (hC : e_C X cX8_comes RX8 5 none 2 gN) (L : e_L) (s0 : Int32) (s1 : Int32) (I : e_I) : Zo X (ph_vI L) (f_X8_comes_147 s0 s1 I) 147 [(0, .ref 83)] [.int s0, .int s1, .ref 83] I L := by
  unfold f_X8_comes_147
  refine zo_iadd hC dX8_comes_147 ?_
  refine zo_putI hC fk8_206 ff8_21 at_83 dX8_comes_148 ?_
  refine zo_topI (fun I_1 => ?_)
  refine zo_goto (tgt := 257) hC dX8_comes_151 (by decide) ?_
  exact Zf_X8_comes_257 hC L I_1

def f_X8_comes_128 (v3 : Int32) (s0 : Int32) (s1 : Int32) (I : e_I) : Option (e_I) :=
  e_let (e_ui I 83 19 (s1 ||| s0)) (fun (I_1 : e_I) =>
  if v3 ≠ 5 then (
    f_X8_comes_147 0 (I_1 83 21) I_1)
  else (
    f_X8_comes_147 1 (I_1 83 21) I_1))
set_option maxRecDepth 100000 in
set_option maxHeartbeats 4000000 in
theorem Zf_X8_comes_128 {X : e_X} (hC : e_C X cX8_comes RX8 5 none 2 gN) (L : e_L) (v3 : Int32) (s0 : Int32) (s1 : Int32) (I : e_I) : Zo X (ph_vI L) (f_X8_comes_128 v3 s0 s1 I) 128 [(0, .ref 83), (3, .int v3)] [.int s0, .int s1, .ref 83] I L := by
  unfold f_X8_comes_128
  refine zo_ior hC dX8_comes_128 ?_
  refine zo_putI hC fk8_209 ff8_19 at_83 dX8_comes_129 ?_
  refine zo_topI (fun I_1 => ?_)
  refine zo_aload_n hC dX8_comes_132 rfl 0 rfl ?_
  refine zo_dup hC rfl dX8_comes_133 ?_
  refine zo_getI hC fk8_206 at_83 dX8_comes_134 ?_
  refine zo_iload_n hC dX8_comes_137 rfl 1 rfl ?_
  refine zo_iconst (v := 5) hC (by decide) dX8_comes_138 ?_
  refine zo_icmp_ne (tgt := 146) hC dX8_comes_139 (by decide) (fun c_2 => ?_) (fun c_2 => ?_)
  · refine zo_iconst (v := 0) hC (by decide) dX8_comes_146 ?_
    refine zo_sub [0] (lv' := [(0, .ref 83)]) rfl ?_
    exact Zf_X8_comes_147 hC L 0 (I_1 83 21) I_1
  · refine zo_iconst (v := 1) hC (by decide) dX8_comes_142 ?_
    refine zo_goto (tgt := 147) hC dX8_comes_143 (by decide) ?_
    refine zo_sub [0] (lv' := [(0, .ref 83)]) rfl ?_
    exact Zf_X8_comes_147 hC L 1 (I_1 83 21) I_1

def f_X8_comes_107 (v1 : Int32) (v3 : Int32) (I : e_I) : Option (e_I) :=
  e_b1 (f_X8_allCome v1 3 I) (fun (I_1 : e_I) =>
  if v3 ≠ 4 then (
    f_X8_comes_128 v3 0 (I_1 83 19) I_1)
  else (
    f_X8_comes_128 v3 4 (I_1 83 19) I_1))
set_option maxRecDepth 100000 in
set_option maxHeartbeats 4000000 in
theorem Zf_X8_comes_107 {X : e_X} (hC : e_C X cX8_comes RX8 5 none 2 gN) (L : e_L) (v1 : Int32) (v3 : Int32) (I : e_I) : Zo X (ph_vI L) (f_X8_comes_107 v1 v3 I) 107 [(0, .ref 83), (1, .int v1), (3, .int v3)] [] I L := by
  unfold f_X8_comes_107
  refine zo_aload_n hC dX8_comes_107 rfl 0 rfl ?_
  refine zo_iload_n hC dX8_comes_108 rfl 1 rfl ?_
  refine zo_iconst (v := 3) hC (by decide) dX8_comes_109 ?_
  refine zo_callV_vI hC (ci := 8) [.int v1, .int 3] [] me_X8_allCome mlX8_212 im_X8_allCome se_X8_allCome rfl (by decide) at_83 (fun p hp => T_X8_allCome v1 3 I L p hp) (by decide) rfl (Nat.le_of_ble_eq_true rfl) dX8_comes_110 rfl (fun I_1 => ?_)
  refine zo_aload_n hC dX8_comes_113 rfl 0 rfl ?_
  refine zo_dup hC rfl dX8_comes_114 ?_
  refine zo_getI hC fk8_209 at_83 dX8_comes_115 ?_
  refine zo_iload_n hC dX8_comes_118 rfl 2 rfl ?_
  refine zo_iconst (v := 4) hC (by decide) dX8_comes_119 ?_
  refine zo_icmp_ne (tgt := 127) hC dX8_comes_120 (by decide) (fun c_2 => ?_) (fun c_2 => ?_)
  · refine zo_iconst (v := 0) hC (by decide) dX8_comes_127 ?_
    refine zo_sub [0, 2] (lv' := [(0, .ref 83), (3, .int v3)]) rfl ?_
    exact Zf_X8_comes_128 hC L v3 0 (I_1 83 19) I_1
  · refine zo_iconst (v := 4) hC (by decide) dX8_comes_123 ?_
    refine zo_goto (tgt := 128) hC dX8_comes_124 (by decide) ?_
    refine zo_sub [0, 2] (lv' := [(0, .ref 83), (3, .int v3)]) rfl ?_
    exact Zf_X8_comes_128 hC L v3 4 (I_1 83 19) I_1

def f_X8_comes_231 (s0 : Int32) (I : e_I) : Option (e_I) :=
  e_let (e_ui I 83 19 s0) (fun (I_1 : e_I) =>
  f_X8_comes_257 I_1)
set_option maxRecDepth 100000 in
set_option maxHeartbeats 4000000 in
theorem Zf_X8_comes_231 {X : e_X} (hC : e_C X cX8_comes RX8 5 none 2 gN) (L : e_L) (s0 : Int32) (I : e_I) : Zo X (ph_vI L) (f_X8_comes_231 s0 I) 231 [(0, .ref 83)] [.int s0, .ref 83] I L := by
  unfold f_X8_comes_231
  refine zo_putI hC fk8_209 ff8_19 at_83 dX8_comes_231 ?_
  refine zo_topI (fun I_1 => ?_)
  refine zo_goto (tgt := 257) hC dX8_comes_234 (by decide) ?_
  exact Zf_X8_comes_257 hC L I_1

def f_X8_comes_215 (v1 : Int32) (v4 : Int32) (s0 : Int32) (I : e_I) : Option (e_I) :=
  e_let (e_ui I 83 21 s0) (fun (I_1 : e_I) =>
  if v4 = 0 then (
    f_X8_comes_231 v1 I_1)
  else (
    f_X8_comes_231 (v1 &&& 3) I_1))
set_option maxRecDepth 100000 in
set_option maxHeartbeats 4000000 in
theorem Zf_X8_comes_215 {X : e_X} (hC : e_C X cX8_comes RX8 5 none 2 gN) (L : e_L) (v1 : Int32) (v4 : Int32) (s0 : Int32) (I : e_I) : Zo X (ph_vI L) (f_X8_comes_215 v1 v4 s0 I) 215 [(0, .ref 83), (1, .int v1), (4, .int v4)] [.int s0, .ref 83] I L := by
  unfold f_X8_comes_215
  refine zo_putI hC fk8_206 ff8_21 at_83 dX8_comes_215 ?_
  refine zo_topI (fun I_1 => ?_)
  refine zo_aload_n hC dX8_comes_218 rfl 0 rfl ?_
  refine zo_iload hC dX8_comes_219 2 rfl ?_
  refine zo_if_eq (tgt := 230) hC dX8_comes_221 (by decide) (fun c_2 => ?_) (fun c_2 => ?_)
  · refine zo_iload_n hC dX8_comes_230 rfl 1 rfl ?_
    refine zo_sub [0] (lv' := [(0, .ref 83)]) rfl ?_
    exact Zf_X8_comes_231 hC L v1 I_1
  · refine zo_iload_n hC dX8_comes_224 rfl 1 rfl ?_
    refine zo_iconst (v := 3) hC (by decide) dX8_comes_225 ?_
    refine zo_iand hC dX8_comes_226 ?_
    refine zo_goto (tgt := 231) hC dX8_comes_227 (by decide) ?_
    refine zo_sub [0] (lv' := [(0, .ref 83)]) rfl ?_
    exact Zf_X8_comes_231 hC L (v1 &&& 3) I_1

def f_X8_comes_202 (v1 : Int32) (s0 : Int32) (I : e_I) : Option (e_I) :=
  if s0 = 0 then (
    f_X8_comes_215 v1 s0 0 I)
  else (
    f_X8_comes_215 v1 s0 1 I)
set_option maxRecDepth 100000 in
set_option maxHeartbeats 4000000 in
theorem Zf_X8_comes_202 {X : e_X} (hC : e_C X cX8_comes RX8 5 none 2 gN) (L : e_L) (v1 : Int32) (s0 : Int32) (I : e_I) : Zo X (ph_vI L) (f_X8_comes_202 v1 s0 I) 202 [(0, .ref 83), (1, .int v1)] [.int s0] I L := by
  unfold f_X8_comes_202
  refine zo_istore (lv' := [(4, .int s0), (0, .ref 83), (1, .int v1)]) hC dX8_comes_202 (by decide) rfl ?_
  refine zo_aload_n hC dX8_comes_204 rfl 1 rfl ?_
  refine zo_iload hC dX8_comes_205 0 rfl ?_
  refine zo_if_eq (tgt := 214) hC dX8_comes_207 (by decide) (fun c_1 => ?_) (fun c_1 => ?_)
  · refine zo_iconst (v := 0) hC (by decide) dX8_comes_214 ?_
    refine zo_sub [1, 2, 0] (lv' := [(0, .ref 83), (1, .int v1), (4, .int s0)]) rfl ?_
    exact Zf_X8_comes_215 hC L v1 s0 0 I
  · refine zo_iconst (v := 1) hC (by decide) dX8_comes_210 ?_
    refine zo_goto (tgt := 215) hC dX8_comes_211 (by decide) ?_
    refine zo_sub [1, 2, 0] (lv' := [(0, .ref 83), (1, .int v1), (4, .int s0)]) rfl ?_
    exact Zf_X8_comes_215 hC L v1 s0 1 I

def f_X8_comes_201 (v1 : Int32) (I : e_I) : Option (e_I) :=
  f_X8_comes_202 v1 0 I
set_option maxRecDepth 100000 in
set_option maxHeartbeats 4000000 in
theorem Zf_X8_comes_201 {X : e_X} (hC : e_C X cX8_comes RX8 5 none 2 gN) (L : e_L) (v1 : Int32) (I : e_I) : Zo X (ph_vI L) (f_X8_comes_201 v1 I) 201 [(0, .ref 83), (1, .int v1)] [] I L := by
  unfold f_X8_comes_201
  refine zo_iconst (v := 0) hC (by decide) dX8_comes_201 ?_
  exact Zf_X8_comes_202 hC L v1 0 I

def f_X8_comes_253 (s0 : Int32) (s1 : Int32) (I : e_I) : Option (e_I) :=
  e_let (e_ui I 83 19 (s1 ||| s0)) (fun (I_1 : e_I) =>
  f_X8_comes_257 I_1)
set_option maxRecDepth 100000 in
set_option maxHeartbeats 4000000 in
theorem Zf_X8_comes_253 {X : e_X} (hC : e_C X cX8_comes RX8 5 none 2 gN) (L : e_L) (s0 : Int32) (s1 : Int32) (I : e_I) : Zo X (ph_vI L) (f_X8_comes_253 s0 s1 I) 253 [(0, .ref 83)] [.int s0, .int s1, .ref 83] I L := by
  unfold f_X8_comes_253
  refine zo_ior hC dX8_comes_253 ?_
  refine zo_putI hC fk8_209 ff8_19 at_83 dX8_comes_254 ?_
  refine zo_topI (fun I_1 => ?_)
  exact Zf_X8_comes_257 hC L I_1

def f_X8_comes_33 (v1 : Int32) (v3 : Int32) (s0 : Int32) (s1 : Int32) (I : e_I) : Option (e_I) :=
  e_let (e_ui I 83 20 (s1 + s0)) (fun (I_1 : e_I) =>
  if v3 ≠ 1 then (
    if v3 = 2 then (
      f_X8_comes_60 v1 v3 I_1)
    else (
      if v3 ≠ 3 then (
        if v3 = 4 then (
          f_X8_comes_107 v1 v3 I_1)
        else (
          if v3 ≠ 5 then (
            if v3 ≠ 6 then (
              if v3 ≠ 0 then (
                if v3 ≠ 7 then (
                  f_X8_comes_253 0 (v1 &&& 6) I_1)
                else (
                  f_X8_comes_253 2 (v1 &&& 6) I_1))
              else (
                if (I_1 85 (3 : Int32).toNatClampNeg) ≠ 1 then (
                  f_X8_comes_201 v1 I_1)
                else (
                  if (I_1 83 20) ≥ 3 then (
                    f_X8_comes_201 v1 I_1)
                  else (
                    if (v1 &&& 4) = 0 then (
                      f_X8_comes_201 v1 I_1)
                    else (
                      f_X8_comes_202 v1 1 I_1)))))
            else (
              e_b1 (f_X8_allCome v1 1 I_1) (fun (I_13 : e_I) =>
              f_X8_comes_257 I_13)))
          else (
            f_X8_comes_107 v1 v3 I_1)))
      else (
        f_X8_comes_60 v1 v3 I_1)))
  else (
    e_b1 (f_X8_walks v1 I_1) (fun (I_14 : e_I) =>
    f_X8_comes_257 I_14)))
set_option maxRecDepth 100000 in
set_option maxHeartbeats 4000000 in
theorem Zf_X8_comes_33 {X : e_X} (hC : e_C X cX8_comes RX8 5 none 2 gN) (L : e_L) (v1 : Int32) (v3 : Int32) (s0 : Int32) (s1 : Int32) (I : e_I) : Zo X (ph_vI L) (f_X8_comes_33 v1 v3 s0 s1 I) 33 [(0, .ref 83), (1, .int v1), (3, .int v3)] [.int s0, .int s1, .ref 83] I L := by
  unfold f_X8_comes_33
  refine zo_iadd hC dX8_comes_33 ?_
  refine zo_putI hC fk8_216 ff8_20 at_83 dX8_comes_34 ?_
  refine zo_topI (fun I_1 => ?_)
  refine zo_iload_n hC dX8_comes_37 rfl 2 rfl ?_
  refine zo_iconst (v := 1) hC (by decide) dX8_comes_38 ?_
  refine zo_icmp_ne (tgt := 50) hC dX8_comes_39 (by decide) (fun c_2 => ?_) (fun c_2 => ?_)
  · refine zo_iload_n hC dX8_comes_50 rfl 2 rfl ?_
    refine zo_iconst (v := 2) hC (by decide) dX8_comes_51 ?_
    refine zo_icmp_eq (tgt := 60) hC dX8_comes_52 (by decide) (fun c_3 => ?_) (fun c_3 => ?_)
    · exact Zf_X8_comes_60 hC L v1 v3 I_1
    · refine zo_iload_n hC dX8_comes_55 rfl 2 rfl ?_
      refine zo_iconst (v := 3) hC (by decide) dX8_comes_56 ?_
      refine zo_icmp_ne (tgt := 97) hC dX8_comes_57 (by decide) (fun c_4 => ?_) (fun c_4 => ?_)
      · refine zo_iload_n hC dX8_comes_97 rfl 2 rfl ?_
        refine zo_iconst (v := 4) hC (by decide) dX8_comes_98 ?_
        refine zo_icmp_eq (tgt := 107) hC dX8_comes_99 (by decide) (fun c_5 => ?_) (fun c_5 => ?_)
        · exact Zf_X8_comes_107 hC L v1 v3 I_1
        · refine zo_iload_n hC dX8_comes_102 rfl 2 rfl ?_
          refine zo_iconst (v := 5) hC (by decide) dX8_comes_103 ?_
          refine zo_icmp_ne (tgt := 154) hC dX8_comes_104 (by decide) (fun c_6 => ?_) (fun c_6 => ?_)
          · refine zo_iload_n hC dX8_comes_154 rfl 2 rfl ?_
            refine zo_bipush (v := 6) hC (by decide) dX8_comes_155 ?_
            refine zo_icmp_ne (tgt := 169) hC dX8_comes_157 (by decide) (fun c_7 => ?_) (fun c_7 => ?_)
            · refine zo_iload_n hC dX8_comes_169 rfl 2 rfl ?_
              refine zo_if_ne (tgt := 237) hC dX8_comes_170 (by decide) (fun c_8 => ?_) (fun c_8 => ?_)
              · refine zo_aload_n hC dX8_comes_237 rfl 0 rfl ?_
                refine zo_iload_n hC dX8_comes_238 rfl 1 rfl ?_
                refine zo_bipush (v := 6) hC (by decide) dX8_comes_239 ?_
                refine zo_iand hC dX8_comes_241 ?_
                refine zo_iload_n hC dX8_comes_242 rfl 2 rfl ?_
                refine zo_bipush (v := 7) hC (by decide) dX8_comes_243 ?_
                refine zo_icmp_ne (tgt := 252) hC dX8_comes_245 (by decide) (fun c_9 => ?_) (fun c_9 => ?_)
                · refine zo_iconst (v := 0) hC (by decide) dX8_comes_252 ?_
                  refine zo_sub [0] (lv' := [(0, .ref 83)]) rfl ?_
                  exact Zf_X8_comes_253 hC L 0 (v1 &&& 6) I_1
                · refine zo_iconst (v := 2) hC (by decide) dX8_comes_248 ?_
                  refine zo_goto (tgt := 253) hC dX8_comes_249 (by decide) ?_
                  refine zo_sub [0] (lv' := [(0, .ref 83)]) rfl ?_
                  exact Zf_X8_comes_253 hC L 2 (v1 &&& 6) I_1
              · refine zo_aload_n hC dX8_comes_173 rfl 0 rfl ?_
                refine zo_getR hC (r := 85) fk8_17 (by decide) gr_83_7 at_83 dX8_comes_174 ?_
                refine zo_iconst (v := 3) hC (by decide) dX8_comes_177 ?_
                refine zo_iald hC ar_85 (e_ix_vp (by decide)) dX8_comes_178 ?_
                refine zo_iconst (v := 1) hC (by decide) dX8_comes_179 ?_
                refine zo_icmp_ne (tgt := 201) hC dX8_comes_180 (by decide) (fun c_10 => ?_) (fun c_10 => ?_)
                · refine zo_sub [0, 1] (lv' := [(0, .ref 83), (1, .int v1)]) rfl ?_
                  exact Zf_X8_comes_201 hC L v1 I_1
                · refine zo_aload_n hC dX8_comes_183 rfl 0 rfl ?_
                  refine zo_getI hC fk8_216 at_83 dX8_comes_184 ?_
                  refine zo_iconst (v := 3) hC (by decide) dX8_comes_187 ?_
                  refine zo_icmp_ge (tgt := 201) hC dX8_comes_188 (by decide) (fun c_11 => ?_) (fun c_11 => ?_)
                  · refine zo_sub [0, 1] (lv' := [(0, .ref 83), (1, .int v1)]) rfl ?_
                    exact Zf_X8_comes_201 hC L v1 I_1
                  · refine zo_iload_n hC dX8_comes_191 rfl 1 rfl ?_
                    refine zo_iconst (v := 4) hC (by decide) dX8_comes_192 ?_
                    refine zo_iand hC dX8_comes_193 ?_
                    refine zo_if_eq (tgt := 201) hC dX8_comes_194 (by decide) (fun c_12 => ?_) (fun c_12 => ?_)
                    · refine zo_sub [0, 1] (lv' := [(0, .ref 83), (1, .int v1)]) rfl ?_
                      exact Zf_X8_comes_201 hC L v1 I_1
                    · refine zo_iconst (v := 1) hC (by decide) dX8_comes_197 ?_
                      refine zo_goto (tgt := 202) hC dX8_comes_198 (by decide) ?_
                      refine zo_sub [0, 1] (lv' := [(0, .ref 83), (1, .int v1)]) rfl ?_
                      exact Zf_X8_comes_202 hC L v1 1 I_1
            · refine zo_aload_n hC dX8_comes_160 rfl 0 rfl ?_
              refine zo_iload_n hC dX8_comes_161 rfl 1 rfl ?_
              refine zo_iconst (v := 1) hC (by decide) dX8_comes_162 ?_
              refine zo_callV_vI hC (ci := 8) [.int v1, .int 1] [] me_X8_allCome mlX8_212 im_X8_allCome se_X8_allCome rfl (by decide) at_83 (fun p hp => T_X8_allCome v1 1 I_1 L p hp) (by decide) rfl (Nat.le_of_ble_eq_true rfl) dX8_comes_163 rfl (fun I_13 => ?_)
              refine zo_goto (tgt := 257) hC dX8_comes_166 (by decide) ?_
              refine zo_sub [0] (lv' := [(0, .ref 83)]) rfl ?_
              exact Zf_X8_comes_257 hC L I_13
          · exact Zf_X8_comes_107 hC L v1 v3 I_1
      · exact Zf_X8_comes_60 hC L v1 v3 I_1
  · refine zo_aload_n hC dX8_comes_42 rfl 0 rfl ?_
    refine zo_iload_n hC dX8_comes_43 rfl 1 rfl ?_
    refine zo_callV_vI hC (ci := 8) [.int v1] [] me_X8_walks mlX8_219 im_X8_walks se_X8_walks rfl (by decide) at_83 (fun p hp => T_X8_walks v1 I_1 L p hp) (by decide) rfl (Nat.le_of_ble_eq_true rfl) dX8_comes_44 rfl (fun I_14 => ?_)
    refine zo_goto (tgt := 257) hC dX8_comes_47 (by decide) ?_
    refine zo_sub [0] (lv' := [(0, .ref 83)]) rfl ?_
    exact Zf_X8_comes_257 hC L I_14

def f_X8_comes_28 (v1 : Int32) (v3 : Int32) (s0 : Int32) (I : e_I) : Option (e_I) :=
  f_X8_comes_33 v1 v3 1 s0 I
set_option maxRecDepth 100000 in
set_option maxHeartbeats 4000000 in
theorem Zf_X8_comes_28 {X : e_X} (hC : e_C X cX8_comes RX8 5 none 2 gN) (L : e_L) (v1 : Int32) (v3 : Int32) (s0 : Int32) (I : e_I) : Zo X (ph_vI L) (f_X8_comes_28 v1 v3 s0 I) 28 [(0, .ref 83), (1, .int v1), (3, .int v3)] [.int s0, .ref 83] I L := by
  unfold f_X8_comes_28
  refine zo_iconst (v := 1) hC (by decide) dX8_comes_28 ?_
  refine zo_goto (tgt := 33) hC dX8_comes_29 (by decide) ?_
  exact Zf_X8_comes_33 hC L v1 v3 1 s0 I

def f_X8_comes (v1 : Int32) (v2 : Int32) (v3 : Int32) (I : e_I) : Option (e_I) :=
  e_let (e_ui I 83 19 0) (fun (I_1 : e_I) =>
  e_let (e_ui I_1 83 21 0) (fun (I_2 : e_I) =>
  if v3 = 0 then (
    f_X8_comes_28 v1 v3 v2 I_2)
  else (
    if v3 = 6 then (
      f_X8_comes_28 v1 v3 v2 I_2)
    else (
      if v3 ≠ 8 then (
        f_X8_comes_33 v1 v3 0 v2 I_2)
      else (
        f_X8_comes_28 v1 v3 v2 I_2)))))
set_option maxRecDepth 100000 in
set_option maxHeartbeats 4000000 in
theorem Zf_X8_comes {X : e_X} (hC : e_C X cX8_comes RX8 5 none 2 gN) (v1 : Int32) (v2 : Int32) (v3 : Int32) (I : e_I) (L : e_L) : Zo X (ph_vI L) (f_X8_comes v1 v2 v3 I) 0 [(0, .ref 83), (1, .int v1), (2, .int v2), (3, .int v3)] [] I L := by
  unfold f_X8_comes
  refine zo_aload_n hC dX8_comes_0 rfl 0 rfl ?_
  refine zo_iconst (v := 0) hC (by decide) dX8_comes_1 ?_
  refine zo_putI hC fk8_209 ff8_19 at_83 dX8_comes_2 ?_
  refine zo_topI (fun I_1 => ?_)
  refine zo_aload_n hC dX8_comes_5 rfl 0 rfl ?_
  refine zo_iconst (v := 0) hC (by decide) dX8_comes_6 ?_
  refine zo_putI hC fk8_206 ff8_21 at_83 dX8_comes_7 ?_
  refine zo_topI (fun I_2 => ?_)
  refine zo_aload_n hC dX8_comes_10 rfl 0 rfl ?_
  refine zo_iload_n hC dX8_comes_11 rfl 2 rfl ?_
  refine zo_iload_n hC dX8_comes_12 rfl 3 rfl ?_
  refine zo_if_eq (tgt := 28) hC dX8_comes_13 (by decide) (fun c_3 => ?_) (fun c_3 => ?_)
  · refine zo_sub [0, 1, 3] (lv' := [(0, .ref 83), (1, .int v1), (3, .int v3)]) rfl ?_
    exact Zf_X8_comes_28 hC L v1 v3 v2 I_2
  · refine zo_iload_n hC dX8_comes_16 rfl 3 rfl ?_
    refine zo_bipush (v := 6) hC (by decide) dX8_comes_17 ?_
    refine zo_icmp_eq (tgt := 28) hC dX8_comes_19 (by decide) (fun c_4 => ?_) (fun c_4 => ?_)
    · refine zo_sub [0, 1, 3] (lv' := [(0, .ref 83), (1, .int v1), (3, .int v3)]) rfl ?_
      exact Zf_X8_comes_28 hC L v1 v3 v2 I_2
    · refine zo_iload_n hC dX8_comes_22 rfl 3 rfl ?_
      refine zo_bipush (v := 8) hC (by decide) dX8_comes_23 ?_
      refine zo_icmp_ne (tgt := 32) hC dX8_comes_25 (by decide) (fun c_5 => ?_) (fun c_5 => ?_)
      · refine zo_iconst (v := 0) hC (by decide) dX8_comes_32 ?_
        refine zo_sub [0, 1, 3] (lv' := [(0, .ref 83), (1, .int v1), (3, .int v3)]) rfl ?_
        exact Zf_X8_comes_33 hC L v1 v3 0 v2 I_2
      · refine zo_sub [0, 1, 3] (lv' := [(0, .ref 83), (1, .int v1), (3, .int v3)]) rfl ?_
        exact Zf_X8_comes_28 hC L v1 v3 v2 I_2

theorem T_X8_comes (v1 : Int32) (v2 : Int32) (v3 : Int32) (I : e_I) (L : e_L) (p : e_I) (hp : f_X8_comes v1 v2 v3 I = some p) : Mt yX8_comes cX8_comes 5 none 2 gN [.ref 83, .int v1, .int v2, .int v3] I L ((ph_vI L) p) := zo_enter hp (by decide) (Nat.le_of_ble_eq_true rfl) (fun X hC => Zf_X8_comes hC v1 v2 v3 I L)
def f_X8_isState_24 (s0 : Int32) : Option (Int32) :=
  e_as (s0 = 0 ∨ s0 = 1) (
  some s0)
set_option maxRecDepth 100000 in
set_option maxHeartbeats 4000000 in
theorem Zf_X8_isState_24 {X : e_X} (hC : e_C X cX8_isState RX8 2 (some .boolean) 1 gN) (I : e_I) (L : e_L) (s0 : Int32) : Zo X (ph_i I L) (f_X8_isState_24 s0) 24 [] [.int s0] I L := by
  unfold f_X8_isState_24
  refine zo_as (fun h_1 => ?_)
  exact zo_zret hC h_1 rfl dX8_isState_24

def f_X8_isState_23 : Option (Int32) :=
  f_X8_isState_24 0
set_option maxRecDepth 100000 in
set_option maxHeartbeats 4000000 in
theorem Zf_X8_isState_23 {X : e_X} (hC : e_C X cX8_isState RX8 2 (some .boolean) 1 gN) (I : e_I) (L : e_L) : Zo X (ph_i I L) (f_X8_isState_23) 23 [] [] I L := by
  unfold f_X8_isState_23
  refine zo_iconst (v := 0) hC (by decide) dX8_isState_23 ?_
  exact Zf_X8_isState_24 hC I L 0

def f_X8_isState (v0 : Int32) (v1 : Int32) : Option (Int32) :=
  e_b1 (f_X8_in v0 0 7) (fun (r_1 : Int32) =>
  if r_1 = 0 then (
    f_X8_isState_23 )
  else (
    e_b1 (f_X8_in v1 0 2) (fun (r_3 : Int32) =>
    if r_3 = 0 then (
      f_X8_isState_23 )
    else (
      f_X8_isState_24 1))))
set_option maxRecDepth 100000 in
set_option maxHeartbeats 4000000 in
theorem Zf_X8_isState {X : e_X} (hC : e_C X cX8_isState RX8 2 (some .boolean) 1 gN) (v0 : Int32) (v1 : Int32) (I : e_I) (L : e_L) : Zo X (ph_i I L) (f_X8_isState v0 v1) 0 [(0, .int v0), (1, .int v1)] [] I L := by
  unfold f_X8_isState
  refine zo_iload_n hC dX8_isState_0 rfl 0 rfl ?_
  refine zo_iconst (v := 0) hC (by decide) dX8_isState_1 ?_
  refine zo_bipush (v := 7) hC (by decide) dX8_isState_2 ?_
  refine zo_callS_i hC [.int v0, .int 0, .int 7] [] me_X8_in mlX8_83 sm_X8_in (fun p hp => T_X8_in v0 0 7 I L p hp) (by decide) rfl (Nat.le_of_ble_eq_true rfl) dX8_isState_4 rfl (fun r_1 => ?_)
  refine zo_if_eq (tgt := 23) hC dX8_isState_7 (by decide) (fun c_2 => ?_) (fun c_2 => ?_)
  · refine zo_sub [] (lv' := []) rfl ?_
    exact Zf_X8_isState_23 hC I L 
  · refine zo_iload_n hC dX8_isState_10 rfl 1 rfl ?_
    refine zo_iconst (v := 0) hC (by decide) dX8_isState_11 ?_
    refine zo_iconst (v := 2) hC (by decide) dX8_isState_12 ?_
    refine zo_callS_i hC [.int v1, .int 0, .int 2] [] me_X8_in mlX8_83 sm_X8_in (fun p hp => T_X8_in v1 0 2 I L p hp) (by decide) rfl (Nat.le_of_ble_eq_true rfl) dX8_isState_13 rfl (fun r_3 => ?_)
    refine zo_if_eq (tgt := 23) hC dX8_isState_16 (by decide) (fun c_4 => ?_) (fun c_4 => ?_)
    · refine zo_sub [] (lv' := []) rfl ?_
      exact Zf_X8_isState_23 hC I L 
    · refine zo_iconst (v := 1) hC (by decide) dX8_isState_19 ?_
      refine zo_goto (tgt := 24) hC dX8_isState_20 (by decide) ?_
      refine zo_sub [] (lv' := []) rfl ?_
      exact Zf_X8_isState_24 hC I L 1

theorem T_X8_isState (v0 : Int32) (v1 : Int32) (I : e_I) (L : e_L) (p : Int32) (hp : f_X8_isState v0 v1 = some p) : Mt yX8_isState cX8_isState 2 (some .boolean) 1 gN [.int v0, .int v1] I L ((ph_i I L) p) := zo_enter hp (by decide) (Nat.le_of_ble_eq_true rfl) (fun X hC => Zf_X8_isState hC v0 v1 I L)
def f_X8_after_111 (s0 : Int32) (I : e_I) : Option (Int32 × e_I) :=
  some (s0, I)
set_option maxRecDepth 100000 in
set_option maxHeartbeats 4000000 in
theorem Zf_X8_after_111 {X : e_X} (hC : e_C X cX8_after RX8 6 (some .int) 3 gN) (L : e_L) (s0 : Int32) (I : e_I) : Zo X (ph_iI L) (f_X8_after_111 s0 I) 111 [] [.int s0] I L := by
  unfold f_X8_after_111
  exact zo_iret hC rfl dX8_after_111

def f_X8_after_67 (v1 : Int32) (v2 : Int32) (v3 : Int32) (v4 : Int32) (s0 : Int32) (I : e_I) : Option (Int32 × e_I) :=
  e_b2 (f_X8_isRefused s0 I) (fun (r_1 : Int32) (I_2 : e_I) =>
  if r_1 = 0 then (
    e_b1 (f_X8_comes v1 v2 v3 I_2) (fun (I_4 : e_I) =>
    if v4 ≠ 0 then (
      if v4 ≠ 1 then (
        f_X8_after_111 (I_4 83 21) I_4)
      else (
        f_X8_after_111 (I_4 83 20) I_4))
    else (
      f_X8_after_111 (I_4 83 19) I_4)))
  else (
    some ((-1), I_2)))
set_option maxRecDepth 100000 in
set_option maxHeartbeats 4000000 in
theorem Zf_X8_after_67 {X : e_X} (hC : e_C X cX8_after RX8 6 (some .int) 3 gN) (L : e_L) (v1 : Int32) (v2 : Int32) (v3 : Int32) (v4 : Int32) (s0 : Int32) (I : e_I) : Zo X (ph_iI L) (f_X8_after_67 v1 v2 v3 v4 s0 I) 67 [(0, .ref 83), (1, .int v1), (2, .int v2), (3, .int v3), (4, .int v4)] [.int s0, .ref 83] I L := by
  unfold f_X8_after_67
  refine zo_callV_iI hC (ci := 8) [.int s0] [] me_X8_isRefused mlX8_162 im_X8_isRefused se_X8_isRefused rfl (by decide) at_83 (fun p hp => T_X8_isRefused s0 I L p hp) (by decide) rfl (Nat.le_of_ble_eq_true rfl) dX8_after_67 rfl (fun r_1 I_2 => ?_)
  refine zo_if_eq (tgt := 75) hC dX8_after_70 (by decide) (fun c_3 => ?_) (fun c_3 => ?_)
  · refine zo_aload_n hC dX8_after_75 rfl 0 rfl ?_
    refine zo_iload_n hC dX8_after_76 rfl 1 rfl ?_
    refine zo_iload_n hC dX8_after_77 rfl 2 rfl ?_
    refine zo_iload_n hC dX8_after_78 rfl 3 rfl ?_
    refine zo_callV_vI hC (ci := 8) [.int v1, .int v2, .int v3] [] me_X8_comes mlX8_229 im_X8_comes se_X8_comes rfl (by decide) at_83 (fun p hp => T_X8_comes v1 v2 v3 I_2 L p hp) (by decide) rfl (Nat.le_of_ble_eq_true rfl) dX8_after_79 rfl (fun I_4 => ?_)
    refine zo_iload hC dX8_after_82 4 rfl ?_
    refine zo_if_ne (tgt := 94) hC dX8_after_84 (by decide) (fun c_5 => ?_) (fun c_5 => ?_)
    · refine zo_iload hC dX8_after_94 4 rfl ?_
      refine zo_iconst (v := 1) hC (by decide) dX8_after_96 ?_
      refine zo_icmp_ne (tgt := 107) hC dX8_after_97 (by decide) (fun c_6 => ?_) (fun c_6 => ?_)
      · refine zo_aload_n hC dX8_after_107 rfl 0 rfl ?_
        refine zo_getI hC fk8_206 at_83 dX8_after_108 ?_
        refine zo_sub [] (lv' := []) rfl ?_
        exact Zf_X8_after_111 hC L (I_4 83 21) I_4
      · refine zo_aload_n hC dX8_after_100 rfl 0 rfl ?_
        refine zo_getI hC fk8_216 at_83 dX8_after_101 ?_
        refine zo_goto (tgt := 111) hC dX8_after_104 (by decide) ?_
        refine zo_sub [] (lv' := []) rfl ?_
        exact Zf_X8_after_111 hC L (I_4 83 20) I_4
    · refine zo_aload_n hC dX8_after_87 rfl 0 rfl ?_
      refine zo_getI hC fk8_209 at_83 dX8_after_88 ?_
      refine zo_goto (tgt := 111) hC dX8_after_91 (by decide) ?_
      refine zo_sub [] (lv' := []) rfl ?_
      exact Zf_X8_after_111 hC L (I_4 83 19) I_4
  · refine zo_iconst (v := (-1)) hC (by decide) dX8_after_73 ?_
    exact zo_iret hC rfl dX8_after_74

def f_X8_after_32 (v1 : Int32) (v2 : Int32) (v3 : Int32) (v4 : Int32) (s0 : Int32) (I : e_I) : Option (Int32 × e_I) :=
  e_b1 (f_X8_isState v1 v2) (fun (r_1 : Int32) =>
  e_b1 (f_X8_unless_ s0 r_1) (fun (r_2 : Int32) =>
  if r_2 = 0 then (
    e_b1 (f_X8_canBe v1 v2 v3) (fun (r_4 : Int32) =>
    if r_4 = 0 then (
      f_X8_after_67 v1 v2 v3 v4 5 I)
    else (
      f_X8_after_67 v1 v2 v3 v4 0 I)))
  else (
    f_X8_after_67 v1 v2 v3 v4 r_2 I)))
set_option maxRecDepth 100000 in
set_option maxHeartbeats 4000000 in
theorem Zf_X8_after_32 {X : e_X} (hC : e_C X cX8_after RX8 6 (some .int) 3 gN) (L : e_L) (v1 : Int32) (v2 : Int32) (v3 : Int32) (v4 : Int32) (s0 : Int32) (I : e_I) : Zo X (ph_iI L) (f_X8_after_32 v1 v2 v3 v4 s0 I) 32 [(0, .ref 83), (1, .int v1), (2, .int v2), (3, .int v3), (4, .int v4)] [.int s0] I L := by
  unfold f_X8_after_32
  refine zo_iload_n hC dX8_after_32 rfl 1 rfl ?_
  refine zo_iload_n hC dX8_after_33 rfl 2 rfl ?_
  refine zo_callS_i hC [.int v1, .int v2] [.int s0] me_X8_isState mlX8_222 sm_X8_isState (fun p hp => T_X8_isState v1 v2 I L p hp) (by decide) rfl (Nat.le_of_ble_eq_true rfl) dX8_after_34 rfl (fun r_1 => ?_)
  refine zo_callS_i hC [.int s0, .int r_1] [] me_X8_unless_ mlX8_158 sm_X8_unless_ (fun p hp => T_X8_unless_ s0 r_1 I L p hp) (by decide) rfl (Nat.le_of_ble_eq_true rfl) dX8_after_37 rfl (fun r_2 => ?_)
  refine zo_istore (lv' := [(5, .int r_2), (0, .ref 83), (1, .int v1), (2, .int v2), (3, .int v3), (4, .int v4)]) hC dX8_after_40 (by decide) rfl ?_
  refine zo_aload_n hC dX8_after_42 rfl 1 rfl ?_
  refine zo_iload hC dX8_after_43 0 rfl ?_
  refine zo_if_eq (tgt := 53) hC dX8_after_45 (by decide) (fun c_3 => ?_) (fun c_3 => ?_)
  · refine zo_iload_n hC dX8_after_53 rfl 2 rfl ?_
    refine zo_iload_n hC dX8_after_54 rfl 3 rfl ?_
    refine zo_iload_n hC dX8_after_55 rfl 4 rfl ?_
    refine zo_callS_i hC [.int v1, .int v2, .int v3] [.ref 83] me_X8_canBe mlX8_226 sm_X8_canBe (fun p hp => T_X8_canBe v1 v2 v3 I L p hp) (by decide) rfl (Nat.le_of_ble_eq_true rfl) dX8_after_56 rfl (fun r_4 => ?_)
    refine zo_if_eq (tgt := 66) hC dX8_after_59 (by decide) (fun c_5 => ?_) (fun c_5 => ?_)
    · refine zo_iconst (v := 5) hC (by decide) dX8_after_66 ?_
      refine zo_sub [1, 2, 3, 4, 5] (lv' := [(0, .ref 83), (1, .int v1), (2, .int v2), (3, .int v3), (4, .int v4)]) rfl ?_
      exact Zf_X8_after_67 hC L v1 v2 v3 v4 5 I
    · refine zo_iconst (v := 0) hC (by decide) dX8_after_62 ?_
      refine zo_goto (tgt := 67) hC dX8_after_63 (by decide) ?_
      refine zo_sub [1, 2, 3, 4, 5] (lv' := [(0, .ref 83), (1, .int v1), (2, .int v2), (3, .int v3), (4, .int v4)]) rfl ?_
      exact Zf_X8_after_67 hC L v1 v2 v3 v4 0 I
  · refine zo_iload hC dX8_after_48 0 rfl ?_
    refine zo_goto (tgt := 67) hC dX8_after_50 (by decide) ?_
    refine zo_sub [1, 2, 3, 4, 5] (lv' := [(0, .ref 83), (1, .int v1), (2, .int v2), (3, .int v3), (4, .int v4)]) rfl ?_
    exact Zf_X8_after_67 hC L v1 v2 v3 v4 r_2 I

def f_X8_after_31 (v1 : Int32) (v2 : Int32) (v3 : Int32) (v4 : Int32) (I : e_I) : Option (Int32 × e_I) :=
  f_X8_after_32 v1 v2 v3 v4 0 I
set_option maxRecDepth 100000 in
set_option maxHeartbeats 4000000 in
theorem Zf_X8_after_31 {X : e_X} (hC : e_C X cX8_after RX8 6 (some .int) 3 gN) (L : e_L) (v1 : Int32) (v2 : Int32) (v3 : Int32) (v4 : Int32) (I : e_I) : Zo X (ph_iI L) (f_X8_after_31 v1 v2 v3 v4 I) 31 [(0, .ref 83), (1, .int v1), (2, .int v2), (3, .int v3), (4, .int v4)] [] I L := by
  unfold f_X8_after_31
  refine zo_iconst (v := 0) hC (by decide) dX8_after_31 ?_
  exact Zf_X8_after_32 hC L v1 v2 v3 v4 0 I

def f_X8_after (v1 : Int32) (v2 : Int32) (v3 : Int32) (v4 : Int32) (I : e_I) : Option (Int32 × e_I) :=
  if (I 83 6) = 0 then (
    f_X8_after_31 v1 v2 v3 v4 I)
  else (
    e_b1 (f_X8_in v3 0 8) (fun (r_2 : Int32) =>
    if r_2 = 0 then (
      f_X8_after_31 v1 v2 v3 v4 I)
    else (
      e_b1 (f_X8_in v4 0 2) (fun (r_4 : Int32) =>
      if r_4 = 0 then (
        f_X8_after_31 v1 v2 v3 v4 I)
      else (
        f_X8_after_32 v1 v2 v3 v4 1 I)))))
set_option maxRecDepth 100000 in
set_option maxHeartbeats 4000000 in
theorem Zf_X8_after {X : e_X} (hC : e_C X cX8_after RX8 6 (some .int) 3 gN) (v1 : Int32) (v2 : Int32) (v3 : Int32) (v4 : Int32) (I : e_I) (L : e_L) : Zo X (ph_iI L) (f_X8_after v1 v2 v3 v4 I) 0 [(0, .ref 83), (1, .int v1), (2, .int v2), (3, .int v3), (4, .int v4)] [] I L := by
  unfold f_X8_after
  refine zo_aload_n hC dX8_after_0 rfl 0 rfl ?_
  refine zo_getZ hC fk8_174 at_83 dX8_after_1 ?_
  refine zo_if_eq (tgt := 31) hC dX8_after_4 (by decide) (fun c_1 => ?_) (fun c_1 => ?_)
  · exact Zf_X8_after_31 hC L v1 v2 v3 v4 I
  · refine zo_iload_n hC dX8_after_7 rfl 3 rfl ?_
    refine zo_iconst (v := 0) hC (by decide) dX8_after_8 ?_
    refine zo_bipush (v := 8) hC (by decide) dX8_after_9 ?_
    refine zo_callS_i hC [.int v3, .int 0, .int 8] [] me_X8_in mlX8_83 sm_X8_in (fun p hp => T_X8_in v3 0 8 I L p hp) (by decide) rfl (Nat.le_of_ble_eq_true rfl) dX8_after_11 rfl (fun r_2 => ?_)
    refine zo_if_eq (tgt := 31) hC dX8_after_14 (by decide) (fun c_3 => ?_) (fun c_3 => ?_)
    · exact Zf_X8_after_31 hC L v1 v2 v3 v4 I
    · refine zo_iload hC dX8_after_17 4 rfl ?_
      refine zo_iconst (v := 0) hC (by decide) dX8_after_19 ?_
      refine zo_iconst (v := 2) hC (by decide) dX8_after_20 ?_
      refine zo_callS_i hC [.int v4, .int 0, .int 2] [] me_X8_in mlX8_83 sm_X8_in (fun p hp => T_X8_in v4 0 2 I L p hp) (by decide) rfl (Nat.le_of_ble_eq_true rfl) dX8_after_21 rfl (fun r_4 => ?_)
      refine zo_if_eq (tgt := 31) hC dX8_after_24 (by decide) (fun c_5 => ?_) (fun c_5 => ?_)
      · exact Zf_X8_after_31 hC L v1 v2 v3 v4 I
      · refine zo_iconst (v := 1) hC (by decide) dX8_after_27 ?_
        refine zo_goto (tgt := 32) hC dX8_after_28 (by decide) ?_
        exact Zf_X8_after_32 hC L v1 v2 v3 v4 1 I

theorem T_X8_after (v1 : Int32) (v2 : Int32) (v3 : Int32) (v4 : Int32) (I : e_I) (L : e_L) (p : Int32 × e_I) (hp : f_X8_after v1 v2 v3 v4 I = some p) : Mt yX8_after cX8_after 6 (some .int) 3 gN [.ref 83, .int v1, .int v2, .int v3, .int v4] I L ((ph_iI L) p) := zo_enter hp (by decide) (Nat.le_of_ble_eq_true rfl) (fun X hC => Zf_X8_after hC v1 v2 v3 v4 I L)
def f_X8_behind_60 (L : e_L) (s0 : Int64) (I : e_I) : Option (Int64 × e_I) :=
  some (s0, I)
set_option maxRecDepth 100000 in
set_option maxHeartbeats 4000000 in
theorem Zf_X8_behind_60 {X : e_X} (hC : e_C X cX8_behind RX8 7 (some .long) 3 gN) (L : e_L) (s0 : Int64) (I : e_I) : Zo X (ph_lI L) (f_X8_behind_60 L s0 I) 60 [] [.long s0] I L := by
  unfold f_X8_behind_60
  exact zo_lret hC rfl dX8_behind_60

def f_X8_behind_36 (L : e_L) (v4 : Int32) (s0 : Int64) (I : e_I) : Option (Int64 × e_I) :=
  if v4 ≠ 1 then (
    some (((((I 83 21).toInt64) * (L 83 26)) + s0), I))
  else (
    if (I 83 21) ≤ 0 then (
      f_X8_behind_60 L s0 I)
    else (
      f_X8_behind_60 L (L 83 26) I))
set_option maxRecDepth 100000 in
set_option maxHeartbeats 4000000 in
theorem Zf_X8_behind_36 {X : e_X} (hC : e_C X cX8_behind RX8 7 (some .long) 3 gN) (L : e_L) (v4 : Int32) (s0 : Int64) (I : e_I) : Zo X (ph_lI L) (f_X8_behind_36 L v4 s0 I) 36 [(0, .ref 83), (4, .int v4)] [.long s0] I L := by
  unfold f_X8_behind_36
  refine zo_lstore (lv' := [(5, .long s0), (0, .ref 83), (4, .int v4)]) hC dX8_behind_36 (by decide) rfl ?_
  refine zo_iload hC dX8_behind_38 2 rfl ?_
  refine zo_iconst (v := 1) hC (by decide) dX8_behind_40 ?_
  refine zo_icmp_ne (tgt := 61) hC dX8_behind_41 (by decide) (fun c_1 => ?_) (fun c_1 => ?_)
  · refine zo_aload_n hC dX8_behind_61 rfl 1 rfl ?_
    refine zo_getI hC fk8_206 at_83 dX8_behind_62 ?_
    refine zo_i2l hC dX8_behind_65 ?_
    refine zo_aload_n hC dX8_behind_66 rfl 1 rfl ?_
    refine zo_getL hC fk8_233 at_83 dX8_behind_67 ?_
    refine zo_lmul hC dX8_behind_70 ?_
    refine zo_lload hC dX8_behind_71 0 rfl ?_
    refine zo_ladd hC dX8_behind_73 ?_
    exact zo_lret hC rfl dX8_behind_74
  · refine zo_aload_n hC dX8_behind_44 rfl 1 rfl ?_
    refine zo_getI hC fk8_206 at_83 dX8_behind_45 ?_
    refine zo_if_le (tgt := 58) hC dX8_behind_48 (by decide) (fun c_2 => ?_) (fun c_2 => ?_)
    · refine zo_lload hC dX8_behind_58 0 rfl ?_
      refine zo_sub [] (lv' := []) rfl ?_
      exact Zf_X8_behind_60 hC L s0 I
    · refine zo_aload_n hC dX8_behind_51 rfl 1 rfl ?_
      refine zo_getL hC fk8_233 at_83 dX8_behind_52 ?_
      refine zo_goto (tgt := 60) hC dX8_behind_55 (by decide) ?_
      refine zo_sub [] (lv' := []) rfl ?_
      exact Zf_X8_behind_60 hC L (L 83 26) I

def f_X8_behind (v1 : Int32) (v2 : Int32) (v3 : Int32) (v4 : Int32) (I : e_I) (L : e_L) : Option (Int64 × e_I) :=
  e_b1 (f_X8_comes v1 v2 v3 I) (fun (I_1 : e_I) =>
  if (I_1 83 20) ≠ 3 then (
    e_as (e_ix (((8 : Int32) * (I_1 83 20)) + (I_1 83 19)) 24 = true) (
    f_X8_behind_36 L v4 (L 90 (((8 : Int32) * (I_1 83 20)) + (I_1 83 19)).toNatClampNeg) I_1))
  else (
    f_X8_behind_36 L v4 0 I_1))
set_option maxRecDepth 100000 in
set_option maxHeartbeats 4000000 in
theorem Zf_X8_behind {X : e_X} (hC : e_C X cX8_behind RX8 7 (some .long) 3 gN) (v1 : Int32) (v2 : Int32) (v3 : Int32) (v4 : Int32) (I : e_I) (L : e_L) : Zo X (ph_lI L) (f_X8_behind v1 v2 v3 v4 I L) 0 [(0, .ref 83), (1, .int v1), (2, .int v2), (3, .int v3), (4, .int v4)] [] I L := by
  unfold f_X8_behind
  refine zo_aload_n hC dX8_behind_0 rfl 0 rfl ?_
  refine zo_iload_n hC dX8_behind_1 rfl 1 rfl ?_
  refine zo_iload_n hC dX8_behind_2 rfl 2 rfl ?_
  refine zo_iload_n hC dX8_behind_3 rfl 3 rfl ?_
  refine zo_callV_vI hC (ci := 8) [.int v1, .int v2, .int v3] [] me_X8_comes mlX8_229 im_X8_comes se_X8_comes rfl (by decide) at_83 (fun p hp => T_X8_comes v1 v2 v3 I L p hp) (by decide) rfl (Nat.le_of_ble_eq_true rfl) dX8_behind_4 rfl (fun I_1 => ?_)
  refine zo_aload_n hC dX8_behind_7 rfl 0 rfl ?_
  refine zo_getI hC fk8_216 at_83 dX8_behind_8 ?_
  refine zo_iconst (v := 3) hC (by decide) dX8_behind_11 ?_
  refine zo_icmp_ne (tgt := 19) hC dX8_behind_12 (by decide) (fun c_2 => ?_) (fun c_2 => ?_)
  · refine zo_aload_n hC dX8_behind_19 rfl 0 rfl ?_
    refine zo_getR hC (r := 90) fk8_33 (by decide) gr_83_23 at_83 dX8_behind_20 ?_
    refine zo_bipush (v := 8) hC (by decide) dX8_behind_23 ?_
    refine zo_aload_n hC dX8_behind_25 rfl 0 rfl ?_
    refine zo_getI hC fk8_216 at_83 dX8_behind_26 ?_
    refine zo_imul hC dX8_behind_29 ?_
    refine zo_aload_n hC dX8_behind_30 rfl 0 rfl ?_
    refine zo_getI hC fk8_209 at_83 dX8_behind_31 ?_
    refine zo_iadd hC dX8_behind_34 ?_
    refine zo_as (fun h_3 => ?_)
    refine zo_lald hC ar_90 (e_ix_vp h_3) dX8_behind_35 ?_
    refine zo_sub [0, 4] (lv' := [(0, .ref 83), (4, .int v4)]) rfl ?_
    exact Zf_X8_behind_36 hC L v4 (L 90 (((8 : Int32) * (I_1 83 20)) + (I_1 83 19)).toNatClampNeg) I_1
  · refine zo_lconst (v := 0) hC (by decide) dX8_behind_15 ?_
    refine zo_goto (tgt := 36) hC dX8_behind_16 (by decide) ?_
    refine zo_sub [0, 4] (lv' := [(0, .ref 83), (4, .int v4)]) rfl ?_
    exact Zf_X8_behind_36 hC L v4 0 I_1

theorem T_X8_behind (v1 : Int32) (v2 : Int32) (v3 : Int32) (v4 : Int32) (I : e_I) (L : e_L) (p : Int64 × e_I) (hp : f_X8_behind v1 v2 v3 v4 I L = some p) : Mt yX8_behind cX8_behind 7 (some .long) 3 gN [.ref 83, .int v1, .int v2, .int v3, .int v4] I L ((ph_lI L) p) := zo_enter hp (by decide) (Nat.le_of_ble_eq_true rfl) (fun X hC => Zf_X8_behind hC v1 v2 v3 v4 I L)
def f_X8_hits_6 (L : e_L) (v1 : Int32) (v2 : Int32) (v3 : Int32) (k42 : Int64 → e_I → Option (Int64 × e_I)) : Nat → Int64 → Int32 → e_I → Option (Int64 × e_I)
  | 0, _, _, _ => none
  | n + 1, v4, v6, I =>
    if v6 ≥ 6 then (
      k42 v4 I)
    else (
      e_as (e_ix v6 6 = true) (
      e_b2 (f_X8_behind v1 v2 v6 v3 I L) (fun (r_3 : Int64) (I_4 : e_I) =>
      e_let (v4 + (((I 92 v6.toNatClampNeg).toInt64) * r_3)) (fun (x_5 : Int64) =>
      e_let (v6 + 1) (fun (x_6 : Int32) =>
      f_X8_hits_6 L v1 v2 v3 k42 n x_5 x_6 I_4)))))
set_option maxRecDepth 100000 in
set_option maxHeartbeats 4000000 in
theorem Zf_X8_hits_6 {X : e_X} (hC : e_C X cX8_hits RX8 7 (some .long) 4 gN) (L : e_L) (v1 : Int32) (v2 : Int32) (v3 : Int32) (k42 : Int64 → e_I → Option (Int64 × e_I)) (hk42 : ∀ (v4 : Int64) (I : e_I), Zo X (ph_lI L) (k42 v4 I) 42 [(4, .long v4)] [] I L) : ∀ (n : Nat) (v4 : Int64) (v6 : Int32) (I : e_I), Zo X (ph_lI L) (f_X8_hits_6 L v1 v2 v3 k42 n v4 v6 I) 6 [(0, .ref 83), (1, .int v1), (2, .int v2), (3, .int v3), (4, .long v4), (6, .int v6)] [] I L := by
  intro n
  induction n with
  | zero => intro v4 v6 I p hp; cases hp
  | succ n ih =>
    intro v4 v6 I
    unfold f_X8_hits_6
    refine zo_iload hC dX8_hits_6 5 rfl ?_
    refine zo_bipush (v := 6) hC (by decide) dX8_hits_8 ?_
    refine zo_icmp_ge (tgt := 42) hC dX8_hits_10 (by decide) (fun c_1 => ?_) (fun c_1 => ?_)
    · refine zo_sub [4] (lv' := [(4, .long v4)]) rfl ?_
      exact hk42 v4 I
    · refine zo_lload hC dX8_hits_13 4 rfl ?_
      refine zo_aload_n hC dX8_hits_15 rfl 0 rfl ?_
      refine zo_getR hC (r := 92) fk8_39 (by decide) gr_83_25 at_83 dX8_hits_16 ?_
      refine zo_iload hC dX8_hits_19 5 rfl ?_
      refine zo_as (fun h_2 => ?_)
      refine zo_iald hC ar_92 (e_ix_vp h_2) dX8_hits_21 ?_
      refine zo_i2l hC dX8_hits_22 ?_
      refine zo_aload_n hC dX8_hits_23 rfl 0 rfl ?_
      refine zo_iload_n hC dX8_hits_24 rfl 1 rfl ?_
      refine zo_iload_n hC dX8_hits_25 rfl 2 rfl ?_
      refine zo_iload hC dX8_hits_26 5 rfl ?_
      refine zo_iload_n hC dX8_hits_28 rfl 3 rfl ?_
      refine zo_callV_lI hC (ci := 8) [.int v1, .int v2, .int v6, .int v3] [.long ((I 92 v6.toNatClampNeg).toInt64), .long v4] me_X8_behind mlX8_237 im_X8_behind se_X8_behind rfl (by decide) at_83 (fun p hp => T_X8_behind v1 v2 v6 v3 I L p hp) (by decide) rfl (Nat.le_of_ble_eq_true rfl) dX8_hits_29 rfl (fun r_3 I_4 => ?_)
      refine zo_lmul hC dX8_hits_32 ?_
      refine zo_ladd hC dX8_hits_33 ?_
      refine zo_topl (fun x_5 => ?_)
      refine zo_lstore (lv' := [(4, .long x_5), (0, .ref 83), (1, .int v1), (2, .int v2), (3, .int v3), (6, .int v6)]) hC dX8_hits_34 (by decide) rfl ?_
      refine zo_iinc hC (x := v6) (fun x_6 => [(6, .int x_6), (4, .long x_5), (0, .ref 83), (1, .int v1), (2, .int v2), (3, .int v3)]) dX8_hits_36 5 rfl (by rfl) (by decide) (fun _ => rfl) (fun x_6 => ?_)
      refine zo_goto (tgt := 6) hC dX8_hits_39 (by decide) ?_
      refine zo_sub [2, 3, 4, 5, 1, 0] (lv' := [(0, .ref 83), (1, .int v1), (2, .int v2), (3, .int v3), (4, .long x_5), (6, .int x_6)]) rfl ?_
      exact ih x_5 x_6 I_4

def f_X8_hits (v1 : Int32) (v2 : Int32) (v3 : Int32) (I : e_I) (L : e_L) : Option (Int64 × e_I) :=
  f_X8_hits_6 L v1 v2 v3 (fun (v4_1 : Int64) (I_2 : e_I) =>
    some (v4_1, I_2)) e_FU 0 0 I
set_option maxRecDepth 100000 in
set_option maxHeartbeats 4000000 in
theorem Zf_X8_hits {X : e_X} (hC : e_C X cX8_hits RX8 7 (some .long) 4 gN) (v1 : Int32) (v2 : Int32) (v3 : Int32) (I : e_I) (L : e_L) : Zo X (ph_lI L) (f_X8_hits v1 v2 v3 I L) 0 [(0, .ref 83), (1, .int v1), (2, .int v2), (3, .int v3)] [] I L := by
  unfold f_X8_hits
  refine zo_lconst (v := 0) hC (by decide) dX8_hits_0 ?_
  refine zo_lstore (lv' := [(4, .long 0), (0, .ref 83), (1, .int v1), (2, .int v2), (3, .int v3)]) hC dX8_hits_1 (by decide) rfl ?_
  refine zo_iconst (v := 0) hC (by decide) dX8_hits_3 ?_
  refine zo_istore (lv' := [(6, .int 0), (4, .long 0), (0, .ref 83), (1, .int v1), (2, .int v2), (3, .int v3)]) hC dX8_hits_4 (by decide) rfl ?_
  refine zo_sub [2, 3, 4, 5, 1, 0] (lv' := [(0, .ref 83), (1, .int v1), (2, .int v2), (3, .int v3), (4, .long 0), (6, .int 0)]) rfl ?_
  refine Zf_X8_hits_6 hC L v1 v2 v3 _ (fun v4_1 I_2 => ?_) e_FU 0 0 I
  · refine zo_lload hC dX8_hits_42 0 rfl ?_
    exact zo_lret hC rfl dX8_hits_44

theorem T_X8_hits (v1 : Int32) (v2 : Int32) (v3 : Int32) (I : e_I) (L : e_L) (p : Int64 × e_I) (hp : f_X8_hits v1 v2 v3 I L = some p) : Mt yX8_hits cX8_hits 7 (some .long) 4 gN [.ref 83, .int v1, .int v2, .int v3] I L ((ph_lI L) p) := zo_enter hp (by decide) (Nat.le_of_ble_eq_true rfl) (fun X hC => Zf_X8_hits hC v1 v2 v3 I L)
def f_X8_bunts (v1 : Int32) (v2 : Int32) (I : e_I) (L : e_L) : Option (Int64 × e_I) :=
  e_b2 (f_X8_behind v1 v2 6 2 I L) (fun (r_1 : Int64) (I_2 : e_I) =>
  some (((20 : Int64) * r_1), I_2))
set_option maxRecDepth 100000 in
set_option maxHeartbeats 4000000 in
theorem Zf_X8_bunts {X : e_X} (hC : e_C X cX8_bunts RX8 3 (some .long) 4 gN) (v1 : Int32) (v2 : Int32) (I : e_I) (L : e_L) : Zo X (ph_lI L) (f_X8_bunts v1 v2 I L) 0 [(0, .ref 83), (1, .int v1), (2, .int v2)] [] I L := by
  unfold f_X8_bunts
  refine zo_ldc2 (v := 20) hC clX8_241 dX8_bunts_0 ?_
  refine zo_aload_n hC dX8_bunts_3 rfl 0 rfl ?_
  refine zo_iload_n hC dX8_bunts_4 rfl 1 rfl ?_
  refine zo_iload_n hC dX8_bunts_5 rfl 2 rfl ?_
  refine zo_bipush (v := 6) hC (by decide) dX8_bunts_6 ?_
  refine zo_iconst (v := 2) hC (by decide) dX8_bunts_8 ?_
  refine zo_callV_lI hC (ci := 8) [.int v1, .int v2, .int 6, .int 2] [.long 20] me_X8_behind mlX8_237 im_X8_behind se_X8_behind rfl (by decide) at_83 (fun p hp => T_X8_behind v1 v2 6 2 I L p hp) (by decide) rfl (Nat.le_of_ble_eq_true rfl) dX8_bunts_9 rfl (fun r_1 I_2 => ?_)
  refine zo_lmul hC dX8_bunts_12 ?_
  exact zo_lret hC rfl dX8_bunts_13

theorem T_X8_bunts (v1 : Int32) (v2 : Int32) (I : e_I) (L : e_L) (p : Int64 × e_I) (hp : f_X8_bunts v1 v2 I L = some p) : Mt yX8_bunts cX8_bunts 3 (some .long) 4 gN [.ref 83, .int v1, .int v2] I L ((ph_lI L) p) := zo_enter hp (by decide) (Nat.le_of_ble_eq_true rfl) (fun X hC => Zf_X8_bunts hC v1 v2 I L)
def f_X8_hitsOrBunts_50 (L : e_L) (s0 : Int64) (I : e_I) : Option (Int64 × e_I) :=
  some (s0, I)
set_option maxRecDepth 100000 in
set_option maxHeartbeats 4000000 in
theorem Zf_X8_hitsOrBunts_50 {X : e_X} (hC : e_C X cX8_hitsOrBunts RX8 7 (some .long) 5 gN) (L : e_L) (s0 : Int64) (I : e_I) : Zo X (ph_lI L) (f_X8_hitsOrBunts_50 L s0 I) 50 [] [.long s0] I L := by
  unfold f_X8_hitsOrBunts_50
  exact zo_lret hC rfl dX8_hitsOrBunts_50

def f_X8_hitsOrBunts_35 (L : e_L) (v3 : Int64) (s0 : Int64) (I : e_I) : Option (Int64 × e_I) :=
  if (lg_cmp s0 v3) ≤ 0 then (
    f_X8_hitsOrBunts_50 L v3 I)
  else (
    f_X8_hitsOrBunts_50 L s0 I)
set_option maxRecDepth 100000 in
set_option maxHeartbeats 4000000 in
theorem Zf_X8_hitsOrBunts_35 {X : e_X} (hC : e_C X cX8_hitsOrBunts RX8 7 (some .long) 5 gN) (L : e_L) (v3 : Int64) (s0 : Int64) (I : e_I) : Zo X (ph_lI L) (f_X8_hitsOrBunts_35 L v3 s0 I) 35 [(3, .long v3)] [.long s0] I L := by
  unfold f_X8_hitsOrBunts_35
  refine zo_lstore (lv' := [(5, .long s0), (3, .long v3)]) hC dX8_hitsOrBunts_35 (by decide) rfl ?_
  refine zo_lload hC dX8_hitsOrBunts_37 0 rfl ?_
  refine zo_lload_n hC dX8_hitsOrBunts_39 rfl 1 rfl ?_
  refine zo_lcmp hC dX8_hitsOrBunts_40 ?_
  refine zo_if_le (tgt := 49) hC dX8_hitsOrBunts_41 (by decide) (fun c_1 => ?_) (fun c_1 => ?_)
  · refine zo_lload_n hC dX8_hitsOrBunts_49 rfl 1 rfl ?_
    refine zo_sub [] (lv' := []) rfl ?_
    exact Zf_X8_hitsOrBunts_50 hC L v3 I
  · refine zo_lload hC dX8_hitsOrBunts_44 0 rfl ?_
    refine zo_goto (tgt := 50) hC dX8_hitsOrBunts_46 (by decide) ?_
    refine zo_sub [] (lv' := []) rfl ?_
    exact Zf_X8_hitsOrBunts_50 hC L s0 I

def f_X8_hitsOrBunts (v1 : Int32) (v2 : Int32) (I : e_I) (L : e_L) : Option (Int64 × e_I) :=
  if v2 ≠ 3 then (
    e_b2 (f_X8_hits v1 v2 2 I L) (fun (r_2 : Int64) (I_3 : e_I) =>
    e_b1 (f_X8_canBe v1 v2 6) (fun (r_4 : Int32) =>
    if r_4 = 0 then (
      f_X8_hitsOrBunts_35 L r_2 0 I_3)
    else (
      e_b2 (f_X8_bunts v1 v2 I_3 L) (fun (r_6 : Int64) (I_7 : e_I) =>
      f_X8_hitsOrBunts_35 L r_2 r_6 I_7)))))
  else (
    some (0, I))
set_option maxRecDepth 100000 in
set_option maxHeartbeats 4000000 in
theorem Zf_X8_hitsOrBunts {X : e_X} (hC : e_C X cX8_hitsOrBunts RX8 7 (some .long) 5 gN) (v1 : Int32) (v2 : Int32) (I : e_I) (L : e_L) : Zo X (ph_lI L) (f_X8_hitsOrBunts v1 v2 I L) 0 [(0, .ref 83), (1, .int v1), (2, .int v2)] [] I L := by
  unfold f_X8_hitsOrBunts
  refine zo_iload_n hC dX8_hitsOrBunts_0 rfl 2 rfl ?_
  refine zo_iconst (v := 3) hC (by decide) dX8_hitsOrBunts_1 ?_
  refine zo_icmp_ne (tgt := 7) hC dX8_hitsOrBunts_2 (by decide) (fun c_1 => ?_) (fun c_1 => ?_)
  · refine zo_aload_n hC dX8_hitsOrBunts_7 rfl 0 rfl ?_
    refine zo_iload_n hC dX8_hitsOrBunts_8 rfl 1 rfl ?_
    refine zo_iload_n hC dX8_hitsOrBunts_9 rfl 2 rfl ?_
    refine zo_iconst (v := 2) hC (by decide) dX8_hitsOrBunts_10 ?_
    refine zo_callV_lI hC (ci := 8) [.int v1, .int v2, .int 2] [] me_X8_hits mlX8_243 im_X8_hits se_X8_hits rfl (by decide) at_83 (fun p hp => T_X8_hits v1 v2 2 I L p hp) (by decide) rfl (Nat.le_of_ble_eq_true rfl) dX8_hitsOrBunts_11 rfl (fun r_2 I_3 => ?_)
    refine zo_lstore_n (lv' := [(3, .long r_2), (0, .ref 83), (1, .int v1), (2, .int v2)]) hC dX8_hitsOrBunts_14 rfl (by decide) rfl ?_
    refine zo_iload_n hC dX8_hitsOrBunts_15 rfl 2 rfl ?_
    refine zo_iload_n hC dX8_hitsOrBunts_16 rfl 3 rfl ?_
    refine zo_bipush (v := 6) hC (by decide) dX8_hitsOrBunts_17 ?_
    refine zo_callS_i hC [.int v1, .int v2, .int 6] [] me_X8_canBe mlX8_226 sm_X8_canBe (fun p hp => T_X8_canBe v1 v2 6 I_3 L p hp) (by decide) rfl (Nat.le_of_ble_eq_true rfl) dX8_hitsOrBunts_19 rfl (fun r_4 => ?_)
    refine zo_if_eq (tgt := 34) hC dX8_hitsOrBunts_22 (by decide) (fun c_5 => ?_) (fun c_5 => ?_)
    · refine zo_lconst (v := 0) hC (by decide) dX8_hitsOrBunts_34 ?_
      refine zo_sub [0] (lv' := [(3, .long r_2)]) rfl ?_
      exact Zf_X8_hitsOrBunts_35 hC L r_2 0 I_3
    · refine zo_aload_n hC dX8_hitsOrBunts_25 rfl 1 rfl ?_
      refine zo_iload_n hC dX8_hitsOrBunts_26 rfl 2 rfl ?_
      refine zo_iload_n hC dX8_hitsOrBunts_27 rfl 3 rfl ?_
      refine zo_callV_lI hC (ci := 8) [.int v1, .int v2] [] me_X8_bunts mlX8_247 im_X8_bunts se_X8_bunts rfl (by decide) at_83 (fun p hp => T_X8_bunts v1 v2 I_3 L p hp) (by decide) rfl (Nat.le_of_ble_eq_true rfl) dX8_hitsOrBunts_28 rfl (fun r_6 I_7 => ?_)
      refine zo_goto (tgt := 35) hC dX8_hitsOrBunts_31 (by decide) ?_
      refine zo_sub [0] (lv' := [(3, .long r_2)]) rfl ?_
      exact Zf_X8_hitsOrBunts_35 hC L r_2 r_6 I_7
  · refine zo_lconst (v := 0) hC (by decide) dX8_hitsOrBunts_5 ?_
    exact zo_lret hC rfl dX8_hitsOrBunts_6

theorem T_X8_hitsOrBunts (v1 : Int32) (v2 : Int32) (I : e_I) (L : e_L) (p : Int64 × e_I) (hp : f_X8_hitsOrBunts v1 v2 I L = some p) : Mt yX8_hitsOrBunts cX8_hitsOrBunts 7 (some .long) 5 gN [.ref 83, .int v1, .int v2] I L ((ph_lI L) p) := zo_enter hp (by decide) (Nat.le_of_ble_eq_true rfl) (fun X hC => Zf_X8_hitsOrBunts hC v1 v2 I L)
def f_X8_steals (v1 : Int32) (v2 : Int32) (I : e_I) (L : e_L) : Option (Int64 × e_I) :=
  e_b1 (f_X8_comes v1 v2 7 I) (fun (I_1 : e_I) =>
  e_b2 (f_X8_hitsOrBunts (I_1 83 19) (I_1 83 20) I_1 L) (fun (r_2 : Int64) (I_3 : e_I) =>
  e_b1 (f_X8_comes v1 v2 8 I_3) (fun (I_4 : e_I) =>
  e_b2 (f_X8_hitsOrBunts (I_4 83 19) (I_4 83 20) I_4 L) (fun (r_5 : Int64) (I_6 : e_I) =>
  some (((((I_6 83 27).toInt64) * r_2) + ((((20 : Int32) - (I_6 83 27)).toInt64) * r_5)), I_6)))))
set_option maxRecDepth 100000 in
set_option maxHeartbeats 4000000 in
theorem Zf_X8_steals {X : e_X} (hC : e_C X cX8_steals RX8 7 (some .long) 6 gN) (v1 : Int32) (v2 : Int32) (I : e_I) (L : e_L) : Zo X (ph_lI L) (f_X8_steals v1 v2 I L) 0 [(0, .ref 83), (1, .int v1), (2, .int v2)] [] I L := by
  unfold f_X8_steals
  refine zo_aload_n hC dX8_steals_0 rfl 0 rfl ?_
  refine zo_iload_n hC dX8_steals_1 rfl 1 rfl ?_
  refine zo_iload_n hC dX8_steals_2 rfl 2 rfl ?_
  refine zo_bipush (v := 7) hC (by decide) dX8_steals_3 ?_
  refine zo_callV_vI hC (ci := 8) [.int v1, .int v2, .int 7] [] me_X8_comes mlX8_229 im_X8_comes se_X8_comes rfl (by decide) at_83 (fun p hp => T_X8_comes v1 v2 7 I L p hp) (by decide) rfl (Nat.le_of_ble_eq_true rfl) dX8_steals_5 rfl (fun I_1 => ?_)
  refine zo_aload_n hC dX8_steals_8 rfl 0 rfl ?_
  refine zo_aload_n hC dX8_steals_9 rfl 0 rfl ?_
  refine zo_getI hC fk8_209 at_83 dX8_steals_10 ?_
  refine zo_aload_n hC dX8_steals_13 rfl 0 rfl ?_
  refine zo_getI hC fk8_216 at_83 dX8_steals_14 ?_
  refine zo_callV_lI hC (ci := 8) [.int (I_1 83 19), .int (I_1 83 20)] [] me_X8_hitsOrBunts mlX8_251 im_X8_hitsOrBunts se_X8_hitsOrBunts rfl (by decide) at_83 (fun p hp => T_X8_hitsOrBunts (I_1 83 19) (I_1 83 20) I_1 L p hp) (by decide) rfl (Nat.le_of_ble_eq_true rfl) dX8_steals_17 rfl (fun r_2 I_3 => ?_)
  refine zo_lstore_n (lv' := [(3, .long r_2), (0, .ref 83), (1, .int v1), (2, .int v2)]) hC dX8_steals_20 rfl (by decide) rfl ?_
  refine zo_aload_n hC dX8_steals_21 rfl 1 rfl ?_
  refine zo_iload_n hC dX8_steals_22 rfl 2 rfl ?_
  refine zo_iload_n hC dX8_steals_23 rfl 3 rfl ?_
  refine zo_bipush (v := 8) hC (by decide) dX8_steals_24 ?_
  refine zo_callV_vI hC (ci := 8) [.int v1, .int v2, .int 8] [] me_X8_comes mlX8_229 im_X8_comes se_X8_comes rfl (by decide) at_83 (fun p hp => T_X8_comes v1 v2 8 I_3 L p hp) (by decide) rfl (Nat.le_of_ble_eq_true rfl) dX8_steals_26 rfl (fun I_4 => ?_)
  refine zo_aload_n hC dX8_steals_29 rfl 1 rfl ?_
  refine zo_aload_n hC dX8_steals_30 rfl 1 rfl ?_
  refine zo_getI hC fk8_209 at_83 dX8_steals_31 ?_
  refine zo_aload_n hC dX8_steals_34 rfl 1 rfl ?_
  refine zo_getI hC fk8_216 at_83 dX8_steals_35 ?_
  refine zo_callV_lI hC (ci := 8) [.int (I_4 83 19), .int (I_4 83 20)] [] me_X8_hitsOrBunts mlX8_251 im_X8_hitsOrBunts se_X8_hitsOrBunts rfl (by decide) at_83 (fun p hp => T_X8_hitsOrBunts (I_4 83 19) (I_4 83 20) I_4 L p hp) (by decide) rfl (Nat.le_of_ble_eq_true rfl) dX8_steals_38 rfl (fun r_5 I_6 => ?_)
  refine zo_lstore (lv' := [(5, .long r_5), (3, .long r_2), (0, .ref 83), (1, .int v1), (2, .int v2)]) hC dX8_steals_41 (by decide) rfl ?_
  refine zo_aload_n hC dX8_steals_43 rfl 2 rfl ?_
  refine zo_getI hC fk8_254 at_83 dX8_steals_44 ?_
  refine zo_i2l hC dX8_steals_47 ?_
  refine zo_lload_n hC dX8_steals_48 rfl 1 rfl ?_
  refine zo_lmul hC dX8_steals_49 ?_
  refine zo_bipush (v := 20) hC (by decide) dX8_steals_50 ?_
  refine zo_aload_n hC dX8_steals_52 rfl 2 rfl ?_
  refine zo_getI hC fk8_254 at_83 dX8_steals_53 ?_
  refine zo_isub hC dX8_steals_56 ?_
  refine zo_i2l hC dX8_steals_57 ?_
  refine zo_lload hC dX8_steals_58 0 rfl ?_
  refine zo_lmul hC dX8_steals_60 ?_
  refine zo_ladd hC dX8_steals_61 ?_
  exact zo_lret hC rfl dX8_steals_62

theorem T_X8_steals (v1 : Int32) (v2 : Int32) (I : e_I) (L : e_L) (p : Int64 × e_I) (hp : f_X8_steals v1 v2 I L = some p) : Mt yX8_steals cX8_steals 7 (some .long) 6 gN [.ref 83, .int v1, .int v2] I L ((ph_lI L) p) := zo_enter hp (by decide) (Nat.le_of_ble_eq_true rfl) (fun X hC => Zf_X8_steals hC v1 v2 I L)
def f_X8_by_42 (L : e_L) (s0 : Int64) (I : e_I) : Option (Int64 × e_I) :=
  some (s0, I)
set_option maxRecDepth 100000 in
set_option maxHeartbeats 4000000 in
theorem Zf_X8_by_42 {X : e_X} (hC : e_C X cX8_by RX8 4 (some .long) 7 gN) (L : e_L) (s0 : Int64) (I : e_I) : Zo X (ph_lI L) (f_X8_by_42 L s0 I) 42 [] [.long s0] I L := by
  unfold f_X8_by_42
  exact zo_lret hC rfl dX8_by_42

def f_X8_by (v1 : Int32) (v2 : Int32) (v3 : Int32) (I : e_I) (L : e_L) : Option (Int64 × e_I) :=
  if v1 ≠ 0 then (
    if v1 ≠ 1 then (
      e_b2 (f_X8_steals v2 v3 I L) (fun (r_3 : Int64) (I_4 : e_I) =>
      f_X8_by_42 L r_3 I_4))
    else (
      e_b2 (f_X8_bunts v2 v3 I L) (fun (r_5 : Int64) (I_6 : e_I) =>
      f_X8_by_42 L ((20 : Int64) * r_5) I_6)))
  else (
    e_b2 (f_X8_hits v2 v3 2 I L) (fun (r_7 : Int64) (I_8 : e_I) =>
    f_X8_by_42 L ((20 : Int64) * r_7) I_8))
set_option maxRecDepth 100000 in
set_option maxHeartbeats 4000000 in
theorem Zf_X8_by {X : e_X} (hC : e_C X cX8_by RX8 4 (some .long) 7 gN) (v1 : Int32) (v2 : Int32) (v3 : Int32) (I : e_I) (L : e_L) : Zo X (ph_lI L) (f_X8_by v1 v2 v3 I L) 0 [(0, .ref 83), (1, .int v1), (2, .int v2), (3, .int v3)] [] I L := by
  unfold f_X8_by
  refine zo_iload_n hC dX8_by_0 rfl 1 rfl ?_
  refine zo_if_ne (tgt := 18) hC dX8_by_1 (by decide) (fun c_1 => ?_) (fun c_1 => ?_)
  · refine zo_iload_n hC dX8_by_18 rfl 1 rfl ?_
    refine zo_iconst (v := 1) hC (by decide) dX8_by_19 ?_
    refine zo_icmp_ne (tgt := 36) hC dX8_by_20 (by decide) (fun c_2 => ?_) (fun c_2 => ?_)
    · refine zo_aload_n hC dX8_by_36 rfl 0 rfl ?_
      refine zo_iload_n hC dX8_by_37 rfl 2 rfl ?_
      refine zo_iload_n hC dX8_by_38 rfl 3 rfl ?_
      refine zo_callV_lI hC (ci := 8) [.int v2, .int v3] [] me_X8_steals mlX8_257 im_X8_steals se_X8_steals rfl (by decide) at_83 (fun p hp => T_X8_steals v2 v3 I L p hp) (by decide) rfl (Nat.le_of_ble_eq_true rfl) dX8_by_39 rfl (fun r_3 I_4 => ?_)
      refine zo_sub [] (lv' := []) rfl ?_
      exact Zf_X8_by_42 hC L r_3 I_4
    · refine zo_ldc2 (v := 20) hC clX8_241 dX8_by_23 ?_
      refine zo_aload_n hC dX8_by_26 rfl 0 rfl ?_
      refine zo_iload_n hC dX8_by_27 rfl 2 rfl ?_
      refine zo_iload_n hC dX8_by_28 rfl 3 rfl ?_
      refine zo_callV_lI hC (ci := 8) [.int v2, .int v3] [.long 20] me_X8_bunts mlX8_247 im_X8_bunts se_X8_bunts rfl (by decide) at_83 (fun p hp => T_X8_bunts v2 v3 I L p hp) (by decide) rfl (Nat.le_of_ble_eq_true rfl) dX8_by_29 rfl (fun r_5 I_6 => ?_)
      refine zo_lmul hC dX8_by_32 ?_
      refine zo_goto (tgt := 42) hC dX8_by_33 (by decide) ?_
      refine zo_sub [] (lv' := []) rfl ?_
      exact Zf_X8_by_42 hC L ((20 : Int64) * r_5) I_6
  · refine zo_ldc2 (v := 20) hC clX8_241 dX8_by_4 ?_
    refine zo_aload_n hC dX8_by_7 rfl 0 rfl ?_
    refine zo_iload_n hC dX8_by_8 rfl 2 rfl ?_
    refine zo_iload_n hC dX8_by_9 rfl 3 rfl ?_
    refine zo_iconst (v := 2) hC (by decide) dX8_by_10 ?_
    refine zo_callV_lI hC (ci := 8) [.int v2, .int v3, .int 2] [.long 20] me_X8_hits mlX8_243 im_X8_hits se_X8_hits rfl (by decide) at_83 (fun p hp => T_X8_hits v2 v3 2 I L p hp) (by decide) rfl (Nat.le_of_ble_eq_true rfl) dX8_by_11 rfl (fun r_7 I_8 => ?_)
    refine zo_lmul hC dX8_by_14 ?_
    refine zo_goto (tgt := 42) hC dX8_by_15 (by decide) ?_
    refine zo_sub [] (lv' := []) rfl ?_
    exact Zf_X8_by_42 hC L ((20 : Int64) * r_7) I_8

theorem T_X8_by (v1 : Int32) (v2 : Int32) (v3 : Int32) (I : e_I) (L : e_L) (p : Int64 × e_I) (hp : f_X8_by v1 v2 v3 I L = some p) : Mt yX8_by cX8_by 4 (some .long) 7 gN [.ref 83, .int v1, .int v2, .int v3] I L ((ph_lI L) p) := zo_enter hp (by decide) (Nat.le_of_ble_eq_true rfl) (fun X hC => Zf_X8_by hC v1 v2 v3 I L)
def f_X8_canChoose_37 (s0 : Int32) : Option (Int32) :=
  e_as (s0 = 0 ∨ s0 = 1) (
  some s0)
set_option maxRecDepth 100000 in
set_option maxHeartbeats 4000000 in
theorem Zf_X8_canChoose_37 {X : e_X} (hC : e_C X cX8_canChoose RX8 3 (some .boolean) 1 gN) (I : e_I) (L : e_L) (s0 : Int32) : Zo X (ph_i I L) (f_X8_canChoose_37 s0) 37 [] [.int s0] I L := by
  unfold f_X8_canChoose_37
  refine zo_as (fun h_1 => ?_)
  exact zo_zret hC h_1 rfl dX8_canChoose_37

def f_X8_canChoose_32 : Option (Int32) :=
  f_X8_canChoose_37 1
set_option maxRecDepth 100000 in
set_option maxHeartbeats 4000000 in
theorem Zf_X8_canChoose_32 {X : e_X} (hC : e_C X cX8_canChoose RX8 3 (some .boolean) 1 gN) (I : e_I) (L : e_L) : Zo X (ph_i I L) (f_X8_canChoose_32) 32 [] [] I L := by
  unfold f_X8_canChoose_32
  refine zo_iconst (v := 1) hC (by decide) dX8_canChoose_32 ?_
  refine zo_goto (tgt := 37) hC dX8_canChoose_33 (by decide) ?_
  exact Zf_X8_canChoose_37 hC I L 1

def f_X8_canChoose_36 : Option (Int32) :=
  f_X8_canChoose_37 0
set_option maxRecDepth 100000 in
set_option maxHeartbeats 4000000 in
theorem Zf_X8_canChoose_36 {X : e_X} (hC : e_C X cX8_canChoose RX8 3 (some .boolean) 1 gN) (I : e_I) (L : e_L) : Zo X (ph_i I L) (f_X8_canChoose_36) 36 [] [] I L := by
  unfold f_X8_canChoose_36
  refine zo_iconst (v := 0) hC (by decide) dX8_canChoose_36 ?_
  exact Zf_X8_canChoose_37 hC I L 0

def f_X8_canChoose (v0 : Int32) (v1 : Int32) (v2 : Int32) : Option (Int32) :=
  if v0 = 0 then (
    f_X8_canChoose_32 )
  else (
    if v0 ≠ 1 then (
      e_b1 (f_X8_canBe v1 v2 7) (fun (r_3 : Int32) =>
      if r_3 = 0 then (
        f_X8_canChoose_36 )
      else (
        f_X8_canChoose_32 )))
    else (
      e_b1 (f_X8_canBe v1 v2 6) (fun (r_5 : Int32) =>
      if r_5 = 0 then (
        f_X8_canChoose_36 )
      else (
        f_X8_canChoose_32 ))))
set_option maxRecDepth 100000 in
set_option maxHeartbeats 4000000 in
theorem Zf_X8_canChoose {X : e_X} (hC : e_C X cX8_canChoose RX8 3 (some .boolean) 1 gN) (v0 : Int32) (v1 : Int32) (v2 : Int32) (I : e_I) (L : e_L) : Zo X (ph_i I L) (f_X8_canChoose v0 v1 v2) 0 [(0, .int v0), (1, .int v1), (2, .int v2)] [] I L := by
  unfold f_X8_canChoose
  refine zo_iload_n hC dX8_canChoose_0 rfl 0 rfl ?_
  refine zo_if_eq (tgt := 32) hC dX8_canChoose_1 (by decide) (fun c_1 => ?_) (fun c_1 => ?_)
  · refine zo_sub [] (lv' := []) rfl ?_
    exact Zf_X8_canChoose_32 hC I L 
  · refine zo_iload_n hC dX8_canChoose_4 rfl 0 rfl ?_
    refine zo_iconst (v := 1) hC (by decide) dX8_canChoose_5 ?_
    refine zo_icmp_ne (tgt := 22) hC dX8_canChoose_6 (by decide) (fun c_2 => ?_) (fun c_2 => ?_)
    · refine zo_iload_n hC dX8_canChoose_22 rfl 1 rfl ?_
      refine zo_iload_n hC dX8_canChoose_23 rfl 2 rfl ?_
      refine zo_bipush (v := 7) hC (by decide) dX8_canChoose_24 ?_
      refine zo_callS_i hC [.int v1, .int v2, .int 7] [] me_X8_canBe mlX8_226 sm_X8_canBe (fun p hp => T_X8_canBe v1 v2 7 I L p hp) (by decide) rfl (Nat.le_of_ble_eq_true rfl) dX8_canChoose_26 rfl (fun r_3 => ?_)
      refine zo_if_eq (tgt := 36) hC dX8_canChoose_29 (by decide) (fun c_4 => ?_) (fun c_4 => ?_)
      · refine zo_sub [] (lv' := []) rfl ?_
        exact Zf_X8_canChoose_36 hC I L 
      · refine zo_sub [] (lv' := []) rfl ?_
        exact Zf_X8_canChoose_32 hC I L 
    · refine zo_iload_n hC dX8_canChoose_9 rfl 1 rfl ?_
      refine zo_iload_n hC dX8_canChoose_10 rfl 2 rfl ?_
      refine zo_bipush (v := 6) hC (by decide) dX8_canChoose_11 ?_
      refine zo_callS_i hC [.int v1, .int v2, .int 6] [] me_X8_canBe mlX8_226 sm_X8_canBe (fun p hp => T_X8_canBe v1 v2 6 I L p hp) (by decide) rfl (Nat.le_of_ble_eq_true rfl) dX8_canChoose_13 rfl (fun r_5 => ?_)
      refine zo_if_eq (tgt := 36) hC dX8_canChoose_16 (by decide) (fun c_6 => ?_) (fun c_6 => ?_)
      · refine zo_sub [] (lv' := []) rfl ?_
        exact Zf_X8_canChoose_36 hC I L 
      · refine zo_goto (tgt := 32) hC dX8_canChoose_19 (by decide) ?_
        refine zo_sub [] (lv' := []) rfl ?_
        exact Zf_X8_canChoose_32 hC I L 

theorem T_X8_canChoose (v0 : Int32) (v1 : Int32) (v2 : Int32) (I : e_I) (L : e_L) (p : Int32) (hp : f_X8_canChoose v0 v1 v2 = some p) : Mt yX8_canChoose cX8_canChoose 3 (some .boolean) 1 gN [.int v0, .int v1, .int v2] I L ((ph_i I L) p) := zo_enter hp (by decide) (Nat.le_of_ble_eq_true rfl) (fun X hC => Zf_X8_canChoose hC v0 v1 v2 I L)
def f_X8_laysState_107 (v1 : Int32) (v3 : Int32) (v4 : Int32) (k41 : Int32 → e_I → e_L → Option (e_I × e_L)) (k113 : e_I → e_L → Option (e_I × e_L)) (v5 : Int32) (I : e_I) (L : e_L) : Option (e_I × e_L) :=
  e_let (v5 + 1) (fun (x_1 : Int32) =>
  k41 x_1 I L)
set_option maxRecDepth 100000 in
set_option maxHeartbeats 4000000 in
theorem Zf_X8_laysState_107 {X : e_X} (hC : e_C X cX8_laysState RX8 8 none 8 gN) (v1 : Int32) (v3 : Int32) (v4 : Int32) (k41 : Int32 → e_I → e_L → Option (e_I × e_L)) (k113 : e_I → e_L → Option (e_I × e_L)) (hk41 : ∀ (v5 : Int32) (I : e_I) (L : e_L), Zo X (ph_vIL) (k41 v5 I L) 41 [(0, .ref 83), (1, .int v1), (3, .int v3), (4, .int v4), (5, .int v5)] [] I L) (hk113 : ∀ (I : e_I) (L : e_L), Zo X (ph_vIL) (k113 I L) 113 [] [] I L) (v5 : Int32) (I : e_I) (L : e_L) : Zo X (ph_vIL) (f_X8_laysState_107 v1 v3 v4 k41 k113 v5 I L) 107 [(0, .ref 83), (1, .int v1), (3, .int v3), (4, .int v4), (5, .int v5)] [] I L := by
  unfold f_X8_laysState_107
  refine zo_iinc hC (x := v5) (fun x_1 => [(5, .int x_1), (0, .ref 83), (1, .int v1), (3, .int v3), (4, .int v4)]) dX8_laysState_107 4 rfl (by rfl) (by decide) (fun _ => rfl) (fun x_1 => ?_)
  refine zo_goto (tgt := 41) hC dX8_laysState_110 (by decide) ?_
  refine zo_sub [1, 2, 3, 4, 0] (lv' := [(0, .ref 83), (1, .int v1), (3, .int v3), (4, .int v4), (5, .int x_1)]) rfl ?_
  exact hk41 x_1 I L

def f_X8_laysState_91 (v1 : Int32) (v3 : Int32) (v4 : Int32) (k41 : Int32 → e_I → e_L → Option (e_I × e_L)) (k113 : e_I → e_L → Option (e_I × e_L)) (v5 : Int32) (v6 : Int64) (I : e_I) (L : e_L) : Option (e_I × e_L) :=
  e_as (e_ix v1 24 = true) (
  e_let (e_ui I 91 v1.toNatClampNeg v5) (fun (I_2 : e_I) =>
  e_as (e_ix v1 24 = true) (
  e_let (e_ul L 89 v1.toNatClampNeg v6) (fun (L_4 : e_L) =>
  f_X8_laysState_107 v1 v3 v4 k41 k113 v5 I_2 L_4))))
set_option maxRecDepth 100000 in
set_option maxHeartbeats 4000000 in
theorem Zf_X8_laysState_91 {X : e_X} (hC : e_C X cX8_laysState RX8 8 none 8 gN) (v1 : Int32) (v3 : Int32) (v4 : Int32) (k41 : Int32 → e_I → e_L → Option (e_I × e_L)) (k113 : e_I → e_L → Option (e_I × e_L)) (hk41 : ∀ (v5 : Int32) (I : e_I) (L : e_L), Zo X (ph_vIL) (k41 v5 I L) 41 [(0, .ref 83), (1, .int v1), (3, .int v3), (4, .int v4), (5, .int v5)] [] I L) (hk113 : ∀ (I : e_I) (L : e_L), Zo X (ph_vIL) (k113 I L) 113 [] [] I L) (v5 : Int32) (v6 : Int64) (I : e_I) (L : e_L) : Zo X (ph_vIL) (f_X8_laysState_91 v1 v3 v4 k41 k113 v5 v6 I L) 91 [(0, .ref 83), (1, .int v1), (3, .int v3), (4, .int v4), (5, .int v5), (6, .long v6)] [] I L := by
  unfold f_X8_laysState_91
  refine zo_aload_n hC dX8_laysState_91 rfl 0 rfl ?_
  refine zo_getR hC (r := 91) fk8_36 (by decide) gr_83_24 at_83 dX8_laysState_92 ?_
  refine zo_iload_n hC dX8_laysState_95 rfl 1 rfl ?_
  refine zo_iload hC dX8_laysState_96 4 rfl ?_
  refine zo_as (fun h_1 => ?_)
  refine zo_iast hC ar_91 (e_ix_vp h_1) dX8_laysState_98 ?_
  refine zo_topI (fun I_2 => ?_)
  refine zo_aload_n hC dX8_laysState_99 rfl 0 rfl ?_
  refine zo_getR hC (r := 89) fk8_29 (by decide) gr_83_22 at_83 dX8_laysState_100 ?_
  refine zo_iload_n hC dX8_laysState_103 rfl 1 rfl ?_
  refine zo_lload hC dX8_laysState_104 5 rfl ?_
  refine zo_as (fun h_3 => ?_)
  refine zo_last hC ar_89 (e_ix_vp h_3) dX8_laysState_106 ?_
  refine zo_topL (fun L_4 => ?_)
  refine zo_sub [0, 1, 2, 3, 4] (lv' := [(0, .ref 83), (1, .int v1), (3, .int v3), (4, .int v4), (5, .int v5)]) rfl ?_
  exact Zf_X8_laysState_107 hC v1 v3 v4 k41 k113 hk41 hk113 v5 I_2 L_4

def f_X8_laysState_41 (v1 : Int32) (v3 : Int32) (v4 : Int32) (k113 : e_I → e_L → Option (e_I × e_L)) : Nat → Int32 → e_I → e_L → Option (e_I × e_L)
  | 0, _, _, _ => none
  | n + 1, v5, I, L =>
    if v5 ≥ 3 then (
      k113 I L)
    else (
      e_b1 (f_X8_canChoose v5 v3 v4) (fun (r_2 : Int32) =>
      if r_2 = 0 then (
        f_X8_laysState_107 v1 v3 v4 (fun v5 I L => f_X8_laysState_41 v1 v3 v4 k113 n v5 I L) k113 v5 I L)
      else (
        e_b2 (f_X8_by v5 v3 v4 I L) (fun (r_4 : Int64) (I_5 : e_I) =>
        e_as (e_ix v1 24 = true) (
        if (I_5 91 v1.toNatClampNeg) = (-1) then (
          f_X8_laysState_91 v1 v3 v4 (fun v5 I L => f_X8_laysState_41 v1 v3 v4 k113 n v5 I L) k113 v5 r_4 I_5 L)
        else (
          e_as (e_ix v1 24 = true) (
          if (lg_cmp r_4 (L 89 v1.toNatClampNeg)) ≤ 0 then (
            f_X8_laysState_107 v1 v3 v4 (fun v5 I L => f_X8_laysState_41 v1 v3 v4 k113 n v5 I L) k113 v5 I_5 L)
          else (
            f_X8_laysState_91 v1 v3 v4 (fun v5 I L => f_X8_laysState_41 v1 v3 v4 k113 n v5 I L) k113 v5 r_4 I_5 L))))))))
set_option maxRecDepth 100000 in
set_option maxHeartbeats 4000000 in
theorem Zf_X8_laysState_41 {X : e_X} (hC : e_C X cX8_laysState RX8 8 none 8 gN) (v1 : Int32) (v3 : Int32) (v4 : Int32) (k113 : e_I → e_L → Option (e_I × e_L)) (hk113 : ∀ (I : e_I) (L : e_L), Zo X (ph_vIL) (k113 I L) 113 [] [] I L) : ∀ (n : Nat) (v5 : Int32) (I : e_I) (L : e_L), Zo X (ph_vIL) (f_X8_laysState_41 v1 v3 v4 k113 n v5 I L) 41 [(0, .ref 83), (1, .int v1), (3, .int v3), (4, .int v4), (5, .int v5)] [] I L := by
  intro n
  induction n with
  | zero => intro v5 I L p hp; cases hp
  | succ n ih =>
    intro v5 I L
    unfold f_X8_laysState_41
    refine zo_iload hC dX8_laysState_41 4 rfl ?_
    refine zo_iconst (v := 3) hC (by decide) dX8_laysState_43 ?_
    refine zo_icmp_ge (tgt := 113) hC dX8_laysState_44 (by decide) (fun c_1 => ?_) (fun c_1 => ?_)
    · refine zo_sub [] (lv' := []) rfl ?_
      exact hk113 I L
    · refine zo_iload hC dX8_laysState_47 4 rfl ?_
      refine zo_iload_n hC dX8_laysState_49 rfl 2 rfl ?_
      refine zo_iload hC dX8_laysState_50 3 rfl ?_
      refine zo_callS_i hC [.int v5, .int v3, .int v4] [] me_X8_canChoose mlX8_260 sm_X8_canChoose (fun p hp => T_X8_canChoose v5 v3 v4 I L p hp) (by decide) rfl (Nat.le_of_ble_eq_true rfl) dX8_laysState_52 rfl (fun r_2 => ?_)
      refine zo_if_eq (tgt := 107) hC dX8_laysState_55 (by decide) (fun c_3 => ?_) (fun c_3 => ?_)
      · exact Zf_X8_laysState_107 hC v1 v3 v4 (fun v5 I L => f_X8_laysState_41 v1 v3 v4 k113 n v5 I L) k113 (fun v5 I L => ih v5 I L) hk113 v5 I L
      · refine zo_aload_n hC dX8_laysState_58 rfl 0 rfl ?_
        refine zo_iload hC dX8_laysState_59 4 rfl ?_
        refine zo_iload_n hC dX8_laysState_61 rfl 2 rfl ?_
        refine zo_iload hC dX8_laysState_62 3 rfl ?_
        refine zo_callV_lI hC (ci := 8) [.int v5, .int v3, .int v4] [] me_X8_by mlX8_263 im_X8_by se_X8_by rfl (by decide) at_83 (fun p hp => T_X8_by v5 v3 v4 I L p hp) (by decide) rfl (Nat.le_of_ble_eq_true rfl) dX8_laysState_64 rfl (fun r_4 I_5 => ?_)
        refine zo_lstore (lv' := [(6, .long r_4), (0, .ref 83), (1, .int v1), (3, .int v3), (4, .int v4), (5, .int v5)]) hC dX8_laysState_67 (by decide) rfl ?_
        refine zo_aload_n hC dX8_laysState_69 rfl 1 rfl ?_
        refine zo_getR hC (r := 91) fk8_36 (by decide) gr_83_24 at_83 dX8_laysState_70 ?_
        refine zo_iload_n hC dX8_laysState_73 rfl 2 rfl ?_
        refine zo_as (fun h_6 => ?_)
        refine zo_iald hC ar_91 (e_ix_vp h_6) dX8_laysState_74 ?_
        refine zo_iconst (v := (-1)) hC (by decide) dX8_laysState_75 ?_
        refine zo_icmp_eq (tgt := 91) hC dX8_laysState_76 (by decide) (fun c_7 => ?_) (fun c_7 => ?_)
        · refine zo_sub [1, 2, 3, 4, 5, 0] (lv' := [(0, .ref 83), (1, .int v1), (3, .int v3), (4, .int v4), (5, .int v5), (6, .long r_4)]) rfl ?_
          exact Zf_X8_laysState_91 hC v1 v3 v4 (fun v5 I L => f_X8_laysState_41 v1 v3 v4 k113 n v5 I L) k113 (fun v5 I L => ih v5 I L) hk113 v5 r_4 I_5 L
        · refine zo_lload hC dX8_laysState_79 0 rfl ?_
          refine zo_aload_n hC dX8_laysState_81 rfl 1 rfl ?_
          refine zo_getR hC (r := 89) fk8_29 (by decide) gr_83_22 at_83 dX8_laysState_82 ?_
          refine zo_iload_n hC dX8_laysState_85 rfl 2 rfl ?_
          refine zo_as (fun h_8 => ?_)
          refine zo_lald hC ar_89 (e_ix_vp h_8) dX8_laysState_86 ?_
          refine zo_lcmp hC dX8_laysState_87 ?_
          refine zo_if_le (tgt := 107) hC dX8_laysState_88 (by decide) (fun c_9 => ?_) (fun c_9 => ?_)
          · refine zo_sub [1, 2, 3, 4, 5] (lv' := [(0, .ref 83), (1, .int v1), (3, .int v3), (4, .int v4), (5, .int v5)]) rfl ?_
            exact Zf_X8_laysState_107 hC v1 v3 v4 (fun v5 I L => f_X8_laysState_41 v1 v3 v4 k113 n v5 I L) k113 (fun v5 I L => ih v5 I L) hk113 v5 I_5 L
          · refine zo_sub [1, 2, 3, 4, 5, 0] (lv' := [(0, .ref 83), (1, .int v1), (3, .int v3), (4, .int v4), (5, .int v5), (6, .long r_4)]) rfl ?_
            exact Zf_X8_laysState_91 hC v1 v3 v4 (fun v5 I L => f_X8_laysState_41 v1 v3 v4 k113 n v5 I L) k113 (fun v5 I L => ih v5 I L) hk113 v5 r_4 I_5 L

def f_X8_laysState (v1 : Int32) (v2 : Int32) (I : e_I) (L : e_L) : Option (e_I × e_L) :=
  e_let (e_rm v1 8) (fun (x_1 : Int32) =>
  e_let (v1 / 8) (fun (x_2 : Int32) =>
  if v2 = 2 then (
    e_as (e_ix v1 24 = true) (
    e_let (e_ui I 91 v1.toNatClampNeg (-1)) (fun (I_5 : e_I) =>
    f_X8_laysState_41 v1 x_1 x_2 (fun (I_6 : e_I) (L_7 : e_L) =>
      some (I_6, L_7)) e_FU 0 I_5 L)))
  else (
    e_b2 (f_X8_hits x_1 x_2 v2 I L) (fun (r_8 : Int64) (I_9 : e_I) =>
    e_as (e_ix v1 24 = true) (
    e_let (e_ul L 89 v1.toNatClampNeg r_8) (fun (L_11 : e_L) =>
    some (I_9, L_11)))))))
set_option maxRecDepth 100000 in
set_option maxHeartbeats 4000000 in
theorem Zf_X8_laysState {X : e_X} (hC : e_C X cX8_laysState RX8 8 none 8 gN) (v1 : Int32) (v2 : Int32) (I : e_I) (L : e_L) : Zo X (ph_vIL) (f_X8_laysState v1 v2 I L) 0 [(0, .ref 83), (1, .int v1), (2, .int v2)] [] I L := by
  unfold f_X8_laysState
  refine zo_iload_n hC dX8_laysState_0 rfl 1 rfl ?_
  refine zo_bipush (v := 8) hC (by decide) dX8_laysState_1 ?_
  refine zo_irem_ hC (by decide) dX8_laysState_3 ?_
  refine zo_topi (fun x_1 => ?_)
  refine zo_istore_n (lv' := [(3, .int x_1), (0, .ref 83), (1, .int v1), (2, .int v2)]) hC dX8_laysState_4 rfl (by decide) rfl ?_
  refine zo_iload_n hC dX8_laysState_5 rfl 2 rfl ?_
  refine zo_bipush (v := 8) hC (by decide) dX8_laysState_6 ?_
  refine zo_idiv hC (by decide) dX8_laysState_8 ?_
  refine zo_topi (fun x_2 => ?_)
  refine zo_istore (lv' := [(4, .int x_2), (3, .int x_1), (0, .ref 83), (1, .int v1), (2, .int v2)]) hC dX8_laysState_9 (by decide) rfl ?_
  refine zo_iload_n hC dX8_laysState_11 rfl 4 rfl ?_
  refine zo_iconst (v := 2) hC (by decide) dX8_laysState_12 ?_
  refine zo_icmp_eq (tgt := 31) hC dX8_laysState_13 (by decide) (fun c_3 => ?_) (fun c_3 => ?_)
  · refine zo_aload_n hC dX8_laysState_31 rfl 2 rfl ?_
    refine zo_getR hC (r := 91) fk8_36 (by decide) gr_83_24 at_83 dX8_laysState_32 ?_
    refine zo_iload_n hC dX8_laysState_35 rfl 3 rfl ?_
    refine zo_iconst (v := (-1)) hC (by decide) dX8_laysState_36 ?_
    refine zo_as (fun h_4 => ?_)
    refine zo_iast hC ar_91 (e_ix_vp h_4) dX8_laysState_37 ?_
    refine zo_topI (fun I_5 => ?_)
    refine zo_iconst (v := 0) hC (by decide) dX8_laysState_38 ?_
    refine zo_istore (lv' := [(5, .int 0), (4, .int x_2), (3, .int x_1), (0, .ref 83), (1, .int v1), (2, .int v2)]) hC dX8_laysState_39 (by decide) rfl ?_
    refine zo_sub [3, 4, 2, 1, 0] (lv' := [(0, .ref 83), (1, .int v1), (3, .int x_1), (4, .int x_2), (5, .int 0)]) rfl ?_
    refine Zf_X8_laysState_41 hC v1 x_1 x_2 _ (fun I_6 L_7 => ?_) e_FU 0 I_5 L
    · exact zo_vret hC rfl dX8_laysState_113
  · refine zo_aload_n hC dX8_laysState_16 rfl 2 rfl ?_
    refine zo_getR hC (r := 89) fk8_29 (by decide) gr_83_22 at_83 dX8_laysState_17 ?_
    refine zo_iload_n hC dX8_laysState_20 rfl 3 rfl ?_
    refine zo_aload_n hC dX8_laysState_21 rfl 2 rfl ?_
    refine zo_iload_n hC dX8_laysState_22 rfl 1 rfl ?_
    refine zo_iload hC dX8_laysState_23 0 rfl ?_
    refine zo_iload_n hC dX8_laysState_25 rfl 4 rfl ?_
    refine zo_callV_lI hC (ci := 8) [.int x_1, .int x_2, .int v2] [.int v1, .ref 89] me_X8_hits mlX8_243 im_X8_hits se_X8_hits rfl (by decide) at_83 (fun p hp => T_X8_hits x_1 x_2 v2 I L p hp) (by decide) rfl (Nat.le_of_ble_eq_true rfl) dX8_laysState_26 rfl (fun r_8 I_9 => ?_)
    refine zo_as (fun h_10 => ?_)
    refine zo_last hC ar_89 (e_ix_vp h_10) dX8_laysState_29 ?_
    refine zo_topL (fun L_11 => ?_)
    exact zo_vret hC rfl dX8_laysState_30

theorem T_X8_laysState (v1 : Int32) (v2 : Int32) (I : e_I) (L : e_L) (p : e_I × e_L) (hp : f_X8_laysState v1 v2 I L = some p) : Mt yX8_laysState cX8_laysState 8 none 8 gN [.ref 83, .int v1, .int v2] I L ((ph_vIL) p) := zo_enter hp (by decide) (Nat.le_of_ble_eq_true rfl) (fun X hC => Zf_X8_laysState hC v1 v2 I L)
def f_X8_laysShares_82 (v1 : Int32) (v2 : Int32) (v3 : Int32) (v4 : Int32) (k21 : Int32 → e_I → Option (e_I)) (k90 : e_I → Option (e_I)) (v5 : Int32) (s0 : Int32) (s1 : Int32) (s2 : Int32) (I : e_I) : Option (e_I) :=
  e_as (e_ix s2 6 = true) (
  e_let (e_ui I 92 s2.toNatClampNeg (s1 + s0)) (fun (I_2 : e_I) =>
  e_let (v5 + 1) (fun (x_3 : Int32) =>
  k21 x_3 I_2)))
set_option maxRecDepth 100000 in
set_option maxHeartbeats 4000000 in
theorem Zf_X8_laysShares_82 {X : e_X} (hC : e_C X cX8_laysShares RX8 6 none 1 gN) (L : e_L) (v1 : Int32) (v2 : Int32) (v3 : Int32) (v4 : Int32) (k21 : Int32 → e_I → Option (e_I)) (k90 : e_I → Option (e_I)) (hk21 : ∀ (v5 : Int32) (I : e_I), Zo X (ph_vI L) (k21 v5 I) 21 [(0, .ref 83), (1, .int v1), (2, .int v2), (3, .int v3), (4, .int v4), (5, .int v5)] [] I L) (hk90 : ∀ (I : e_I), Zo X (ph_vI L) (k90 I) 90 [(0, .ref 83), (1, .int v1), (2, .int v2), (3, .int v3), (4, .int v4)] [] I L) (v5 : Int32) (s0 : Int32) (s1 : Int32) (s2 : Int32) (I : e_I) : Zo X (ph_vI L) (f_X8_laysShares_82 v1 v2 v3 v4 k21 k90 v5 s0 s1 s2 I) 82 [(0, .ref 83), (1, .int v1), (2, .int v2), (3, .int v3), (4, .int v4), (5, .int v5)] [.int s0, .int s1, .int s2, .ref 92] I L := by
  unfold f_X8_laysShares_82
  refine zo_iadd hC dX8_laysShares_82 ?_
  refine zo_as (fun h_1 => ?_)
  refine zo_iast hC ar_92 (e_ix_vp h_1) dX8_laysShares_83 ?_
  refine zo_topI (fun I_2 => ?_)
  refine zo_iinc hC (x := v5) (fun x_3 => [(5, .int x_3), (0, .ref 83), (1, .int v1), (2, .int v2), (3, .int v3), (4, .int v4)]) dX8_laysShares_84 5 rfl (by rfl) (by decide) (fun _ => rfl) (fun x_3 => ?_)
  refine zo_goto (tgt := 21) hC dX8_laysShares_87 (by decide) ?_
  refine zo_sub [1, 2, 3, 4, 5, 0] (lv' := [(0, .ref 83), (1, .int v1), (2, .int v2), (3, .int v3), (4, .int v4), (5, .int x_3)]) rfl ?_
  exact hk21 x_3 I_2

def f_X8_laysShares_21 (v1 : Int32) (v2 : Int32) (v3 : Int32) (v4 : Int32) (k90 : e_I → Option (e_I)) : Nat → Int32 → e_I → Option (e_I)
  | 0, _, _ => none
  | n + 1, v5, I =>
    if v5 ≥ (I 85 (0 : Int32).toNatClampNeg) then (
      k90 I)
    else (
      e_as (e_ix v4 6 = true) (
      if v1 ≠ 3 then (
        if v5 ≠ v2 then (
          f_X8_laysShares_82 v1 v2 v3 v4 (fun v5 I => f_X8_laysShares_21 v1 v2 v3 v4 k90 n v5 I) k90 v5 0 (I 92 v4.toNatClampNeg) v4 I)
        else (
          e_b1 (f_X8_chanceOf v2 v4 v3 I) (fun (r_5 : Int32) =>
          f_X8_laysShares_82 v1 v2 v3 v4 (fun v5 I => f_X8_laysShares_21 v1 v2 v3 v4 k90 n v5 I) k90 v5 r_5 (I 92 v4.toNatClampNeg) v4 I)))
      else (
        e_as (e_ix (((6 : Int32) + ((6 : Int32) * v5)) + v4) 396 = true) (
        f_X8_laysShares_82 v1 v2 v3 v4 (fun v5 I => f_X8_laysShares_21 v1 v2 v3 v4 k90 n v5 I) k90 v5 (I 85 (((6 : Int32) + ((6 : Int32) * v5)) + v4).toNatClampNeg) (I 92 v4.toNatClampNeg) v4 I))))
set_option maxRecDepth 100000 in
set_option maxHeartbeats 4000000 in
theorem Zf_X8_laysShares_21 {X : e_X} (hC : e_C X cX8_laysShares RX8 6 none 1 gN) (L : e_L) (v1 : Int32) (v2 : Int32) (v3 : Int32) (v4 : Int32) (k90 : e_I → Option (e_I)) (hk90 : ∀ (I : e_I), Zo X (ph_vI L) (k90 I) 90 [(0, .ref 83), (1, .int v1), (2, .int v2), (3, .int v3), (4, .int v4)] [] I L) : ∀ (n : Nat) (v5 : Int32) (I : e_I), Zo X (ph_vI L) (f_X8_laysShares_21 v1 v2 v3 v4 k90 n v5 I) 21 [(0, .ref 83), (1, .int v1), (2, .int v2), (3, .int v3), (4, .int v4), (5, .int v5)] [] I L := by
  intro n
  induction n with
  | zero => intro v5 I p hp; cases hp
  | succ n ih =>
    intro v5 I
    unfold f_X8_laysShares_21
    refine zo_iload hC dX8_laysShares_21 5 rfl ?_
    refine zo_aload_n hC dX8_laysShares_23 rfl 0 rfl ?_
    refine zo_getR hC (r := 85) fk8_17 (by decide) gr_83_7 at_83 dX8_laysShares_24 ?_
    refine zo_iconst (v := 0) hC (by decide) dX8_laysShares_27 ?_
    refine zo_iald hC ar_85 (e_ix_vp (by decide)) dX8_laysShares_28 ?_
    refine zo_icmp_ge (tgt := 90) hC dX8_laysShares_29 (by decide) (fun c_1 => ?_) (fun c_1 => ?_)
    · refine zo_sub [0, 1, 2, 3, 4] (lv' := [(0, .ref 83), (1, .int v1), (2, .int v2), (3, .int v3), (4, .int v4)]) rfl ?_
      exact hk90 I
    · refine zo_aload_n hC dX8_laysShares_32 rfl 0 rfl ?_
      refine zo_getR hC (r := 92) fk8_39 (by decide) gr_83_25 at_83 dX8_laysShares_33 ?_
      refine zo_iload hC dX8_laysShares_36 4 rfl ?_
      refine zo_dup2 hC rfl rfl dX8_laysShares_38 ?_
      refine zo_as (fun h_2 => ?_)
      refine zo_iald hC ar_92 (e_ix_vp h_2) dX8_laysShares_39 ?_
      refine zo_iload_n hC dX8_laysShares_40 rfl 1 rfl ?_
      refine zo_iconst (v := 3) hC (by decide) dX8_laysShares_41 ?_
      refine zo_icmp_ne (tgt := 64) hC dX8_laysShares_42 (by decide) (fun c_3 => ?_) (fun c_3 => ?_)
      · refine zo_iload hC dX8_laysShares_64 5 rfl ?_
        refine zo_iload_n hC dX8_laysShares_66 rfl 2 rfl ?_
        refine zo_icmp_ne (tgt := 81) hC dX8_laysShares_67 (by decide) (fun c_4 => ?_) (fun c_4 => ?_)
        · refine zo_iconst (v := 0) hC (by decide) dX8_laysShares_81 ?_
          exact Zf_X8_laysShares_82 hC L v1 v2 v3 v4 (fun v5 I => f_X8_laysShares_21 v1 v2 v3 v4 k90 n v5 I) k90 (fun v5 I => ih v5 I) hk90 v5 0 (I 92 v4.toNatClampNeg) v4 I
        · refine zo_aload_n hC dX8_laysShares_70 rfl 0 rfl ?_
          refine zo_iload_n hC dX8_laysShares_71 rfl 2 rfl ?_
          refine zo_iload hC dX8_laysShares_72 4 rfl ?_
          refine zo_iload_n hC dX8_laysShares_74 rfl 3 rfl ?_
          refine zo_callV_i hC (ci := 8) [.int v2, .int v4, .int v3] [.int (I 92 v4.toNatClampNeg), .int v4, .ref 92] me_X8_chanceOf mlX8_202 im_X8_chanceOf se_X8_chanceOf rfl (by decide) at_83 (fun p hp => T_X8_chanceOf v2 v4 v3 I L p hp) (by decide) rfl (Nat.le_of_ble_eq_true rfl) dX8_laysShares_75 rfl (fun r_5 => ?_)
          refine zo_goto (tgt := 82) hC dX8_laysShares_78 (by decide) ?_
          exact Zf_X8_laysShares_82 hC L v1 v2 v3 v4 (fun v5 I => f_X8_laysShares_21 v1 v2 v3 v4 k90 n v5 I) k90 (fun v5 I => ih v5 I) hk90 v5 r_5 (I 92 v4.toNatClampNeg) v4 I
      · refine zo_aload_n hC dX8_laysShares_45 rfl 0 rfl ?_
        refine zo_getR hC (r := 85) fk8_17 (by decide) gr_83_7 at_83 dX8_laysShares_46 ?_
        refine zo_bipush (v := 6) hC (by decide) dX8_laysShares_49 ?_
        refine zo_bipush (v := 6) hC (by decide) dX8_laysShares_51 ?_
        refine zo_iload hC dX8_laysShares_53 5 rfl ?_
        refine zo_imul hC dX8_laysShares_55 ?_
        refine zo_iadd hC dX8_laysShares_56 ?_
        refine zo_iload hC dX8_laysShares_57 4 rfl ?_
        refine zo_iadd hC dX8_laysShares_59 ?_
        refine zo_as (fun h_6 => ?_)
        refine zo_iald hC ar_85 (e_ix_vp h_6) dX8_laysShares_60 ?_
        refine zo_goto (tgt := 82) hC dX8_laysShares_61 (by decide) ?_
        exact Zf_X8_laysShares_82 hC L v1 v2 v3 v4 (fun v5 I => f_X8_laysShares_21 v1 v2 v3 v4 k90 n v5 I) k90 (fun v5 I => ih v5 I) hk90 v5 (I 85 (((6 : Int32) + ((6 : Int32) * v5)) + v4).toNatClampNeg) (I 92 v4.toNatClampNeg) v4 I

def f_X8_laysShares_3 (v1 : Int32) (v2 : Int32) (v3 : Int32) (k96 : e_I → Option (e_I)) : Nat → Int32 → e_I → Option (e_I)
  | 0, _, _ => none
  | n + 1, v4, I =>
    if v4 ≥ 6 then (
      k96 I)
    else (
      e_as (e_ix v4 6 = true) (
      e_let (e_ui I 92 v4.toNatClampNeg 0) (fun (I_3 : e_I) =>
      f_X8_laysShares_21 v1 v2 v3 v4 (fun (I_4 : e_I) =>
        e_let (v4 + 1) (fun (x_5 : Int32) =>
        f_X8_laysShares_3 v1 v2 v3 k96 n x_5 I_4)) e_FU 0 I_3)))
set_option maxRecDepth 100000 in
set_option maxHeartbeats 4000000 in
theorem Zf_X8_laysShares_3 {X : e_X} (hC : e_C X cX8_laysShares RX8 6 none 1 gN) (L : e_L) (v1 : Int32) (v2 : Int32) (v3 : Int32) (k96 : e_I → Option (e_I)) (hk96 : ∀ (I : e_I), Zo X (ph_vI L) (k96 I) 96 [] [] I L) : ∀ (n : Nat) (v4 : Int32) (I : e_I), Zo X (ph_vI L) (f_X8_laysShares_3 v1 v2 v3 k96 n v4 I) 3 [(0, .ref 83), (1, .int v1), (2, .int v2), (3, .int v3), (4, .int v4)] [] I L := by
  intro n
  induction n with
  | zero => intro v4 I p hp; cases hp
  | succ n ih =>
    intro v4 I
    unfold f_X8_laysShares_3
    refine zo_iload hC dX8_laysShares_3 4 rfl ?_
    refine zo_bipush (v := 6) hC (by decide) dX8_laysShares_5 ?_
    refine zo_icmp_ge (tgt := 96) hC dX8_laysShares_7 (by decide) (fun c_1 => ?_) (fun c_1 => ?_)
    · refine zo_sub [] (lv' := []) rfl ?_
      exact hk96 I
    · refine zo_aload_n hC dX8_laysShares_10 rfl 0 rfl ?_
      refine zo_getR hC (r := 92) fk8_39 (by decide) gr_83_25 at_83 dX8_laysShares_11 ?_
      refine zo_iload hC dX8_laysShares_14 4 rfl ?_
      refine zo_iconst (v := 0) hC (by decide) dX8_laysShares_16 ?_
      refine zo_as (fun h_2 => ?_)
      refine zo_iast hC ar_92 (e_ix_vp h_2) dX8_laysShares_17 ?_
      refine zo_topI (fun I_3 => ?_)
      refine zo_iconst (v := 0) hC (by decide) dX8_laysShares_18 ?_
      refine zo_istore (lv' := [(5, .int 0), (0, .ref 83), (1, .int v1), (2, .int v2), (3, .int v3), (4, .int v4)]) hC dX8_laysShares_19 (by decide) rfl ?_
      refine zo_sub [1, 2, 3, 4, 5, 0] (lv' := [(0, .ref 83), (1, .int v1), (2, .int v2), (3, .int v3), (4, .int v4), (5, .int 0)]) rfl ?_
      refine Zf_X8_laysShares_21 hC L v1 v2 v3 v4 _ (fun I_4 => ?_) e_FU 0 I_3
      · refine zo_iinc hC (x := v4) (fun x_5 => [(4, .int x_5), (0, .ref 83), (1, .int v1), (2, .int v2), (3, .int v3)]) dX8_laysShares_90 4 rfl (by rfl) (by decide) (fun _ => rfl) (fun x_5 => ?_)
        refine zo_goto (tgt := 3) hC dX8_laysShares_93 (by decide) ?_
        refine zo_sub [1, 2, 3, 4, 0] (lv' := [(0, .ref 83), (1, .int v1), (2, .int v2), (3, .int v3), (4, .int x_5)]) rfl ?_
        exact ih x_5 I_4

def f_X8_laysShares (v1 : Int32) (v2 : Int32) (v3 : Int32) (I : e_I) : Option (e_I) :=
  f_X8_laysShares_3 v1 v2 v3 (fun (I_1 : e_I) =>
    some I_1) e_FU 0 I
set_option maxRecDepth 100000 in
set_option maxHeartbeats 4000000 in
theorem Zf_X8_laysShares {X : e_X} (hC : e_C X cX8_laysShares RX8 6 none 1 gN) (v1 : Int32) (v2 : Int32) (v3 : Int32) (I : e_I) (L : e_L) : Zo X (ph_vI L) (f_X8_laysShares v1 v2 v3 I) 0 [(0, .ref 83), (1, .int v1), (2, .int v2), (3, .int v3)] [] I L := by
  unfold f_X8_laysShares
  refine zo_iconst (v := 0) hC (by decide) dX8_laysShares_0 ?_
  refine zo_istore (lv' := [(4, .int 0), (0, .ref 83), (1, .int v1), (2, .int v2), (3, .int v3)]) hC dX8_laysShares_1 (by decide) rfl ?_
  refine zo_sub [1, 2, 3, 4, 0] (lv' := [(0, .ref 83), (1, .int v1), (2, .int v2), (3, .int v3), (4, .int 0)]) rfl ?_
  refine Zf_X8_laysShares_3 hC L v1 v2 v3 _ (fun I_1 => ?_) e_FU 0 I
  · exact zo_vret hC rfl dX8_laysShares_96

theorem T_X8_laysShares (v1 : Int32) (v2 : Int32) (v3 : Int32) (I : e_I) (L : e_L) (p : e_I) (hp : f_X8_laysShares v1 v2 v3 I = some p) : Mt yX8_laysShares cX8_laysShares 6 none 1 gN [.ref 83, .int v1, .int v2, .int v3] I L ((ph_vI L) p) := zo_enter hp (by decide) (Nat.le_of_ble_eq_true rfl) (fun X hC => Zf_X8_laysShares hC v1 v2 v3 I L)
