/-! java/util/ArrayList.grow(I)[Ljava/lang/Object; -/
abbrev M_Jx4a65c_grow_92f84 : MS := (yJx4a65c_grow_92f84, cJx4a65c_grow_92f84, 4, (some (.array (.object "java/lang/Object"))), [], 3, 84)
theorem pd_Jx4a65c_grow_92f84 : (parseMethodDescriptor (mY M_Jx4a65c_grow_92f84).desc).map (fun d => d.parameters.length) = some 1 := by decide +kernel
def Jx4a65c_grow_92f84_b20 (t0 mi : Nat) (x0 : Nat) (x1 : Int32) (x2 : Int32) : Mo Nat :=
    bnd (f_J8_newLength_cabcc t0 mi x2 (x1 - x2) (x2 >>> ((1 : Int32) &&& 31))) fun v27 =>
    bnd (gA' x0 0 1) fun v33 =>
    bnd (f_J7_copyOf_1904c t0 mi v33 v27) fun v37 =>
    bnd (pV x0 0 1 (.ref v37)) fun _ =>
    rt v37
set_option maxRecDepth 20000 in
theorem I_Jx4a65c_grow_92f84_b20 {l : Launch} {g : GX} (hst : l.stackTraces = false) (x0 : Nat) (x1 : Int32) (x2 : Int32) : I l g M_Jx4a65c_grow_92f84 cvA 20 [(0, .ref x0), (1, .int x1), (2, .int x2)] [] (Jx4a65c_grow_92f84_b20 (gt0 g) (gmi g) x0 x1 x2) := by
  unfold Jx4a65c_grow_92f84_b20
  refine I_iload_n 2 21 dJx4a65c_grow_92f84_20 rfl rfl rfl ?_
  refine I_iload_n 1 22 dJx4a65c_grow_92f84_21 rfl rfl rfl ?_
  refine I_iload_n 2 23 dJx4a65c_grow_92f84_22 rfl rfl rfl ?_
  refine I_isub 24 dJx4a65c_grow_92f84_23 rfl ?_
  refine I_iload_n 2 25 dJx4a65c_grow_92f84_24 rfl rfl rfl ?_
  refine I_iconst (1 : Int32) 26 dJx4a65c_grow_92f84_25 rfl (by decide) ?_
  refine I_ishr 27 dJx4a65c_grow_92f84_26 rfl ?_
  refine I_callSi (As := [.int x2, .int (x1 - x2), .int (x2 >>> ((1 : Int32) &&& 31))]) (rest := []) 30 (C_J8_newLength_cabcc hst x2 (x1 - x2) (x2 >>> ((1 : Int32) &&& 31))) dJx4a65c_grow_92f84_27 rfl rfl (by decide) (Nat.le_of_ble_eq_true rfl) wcd_109 win_110 wml_111 wst_112 ⟨by decide, by decide, pd_J8_newLength_cabcc⟩ (fun x hx => by cases hx) (fun v27 => ?_)
  refine I_istore_n 31 [(3, .int v27), (0, .ref x0), (1, .int x1), (2, .int x2)] dJx4a65c_grow_92f84_30 rfl rfl (by decide) rfl ?_
  refine I_aload_n 1 32 dJx4a65c_grow_92f84_31 rfl rfl rfl ?_
  refine I_aload_n 1 33 dJx4a65c_grow_92f84_32 rfl rfl rfl ?_
  refine I_getA 36 dJx4a65c_grow_92f84_33 rfl cl0 (by decide) wfl_13 sameF_rfl (fun v33 => ?_)
  refine I_iload_n 0 37 dJx4a65c_grow_92f84_36 rfl rfl rfl ?_
  refine I_callSa (As := [.ref v33, .int v27]) (rest := [.ref x0]) 40 (C_J7_copyOf_1904c hst v33 v27) dJx4a65c_grow_92f84_37 rfl rfl (by decide) (Nat.le_of_ble_eq_true rfl) wcd_113 win_106 wml_114 wst_115 ⟨by decide, by decide, pd_J7_copyOf_1904c⟩ (fun x hx => by cases hx) (fun v37 => ?_)
  refine I_dup_x1 41 dJx4a65c_grow_92f84_40 rfl rfl rfl ?_
  refine I_put 44 dJx4a65c_grow_92f84_41 rfl cl0 (by decide) wfl_13 sameF_rfl rfl rfl rfl ?_
  exact I_aret dJx4a65c_grow_92f84_44 rfl (Or.inr ⟨_, rfl⟩)
def f_Jx4a65c_grow_92f84 (t0 mi : Nat) (x0 : Nat) (x1 : Int32) : Mo Nat :=
    bnd (gA' x0 0 1) fun v1 =>
    bnd (alenT t0 v1) fun v4 =>
    (if 0 < v4 then
    Jx4a65c_grow_92f84_b20 t0 mi x0 x1 v4
    else
    bnd (gA' x0 0 1) fun v11 =>
    (if v11 = t0 then
    bnd (newK 3 (.inr (.inr (.inr (.inr fun _ => none)))) (mx (10 : Int32) x1)) fun v52 =>
    bnd (pV x0 0 1 (.ref v52)) fun _ =>
    rt v52
    else
    Jx4a65c_grow_92f84_b20 t0 mi x0 x1 v4))
set_option maxRecDepth 20000 in
theorem I_Jx4a65c_grow_92f84 {l : Launch} {g : GX} (hst : l.stackTraces = false) (x0 : Nat) (x1 : Int32) : I l g M_Jx4a65c_grow_92f84 cvA 0 [(0, .ref x0), (1, .int x1)] [] (f_Jx4a65c_grow_92f84 (gt0 g) (gmi g) x0 x1) := by
  unfold f_Jx4a65c_grow_92f84
  refine I_aload_n 0 1 dJx4a65c_grow_92f84_0 rfl rfl rfl ?_
  refine I_getA 4 dJx4a65c_grow_92f84_1 rfl cl0 (by decide) wfl_13 sameF_rfl (fun v1 => ?_)
  refine I_alenT 5 dJx4a65c_grow_92f84_4 rfl (fun v4 => ?_)
  refine I_istore_n 6 [(2, .int v4), (0, .ref x0), (1, .int x1)] dJx4a65c_grow_92f84_5 rfl rfl (by decide) rfl ?_
  refine I_iload_n 0 7 dJx4a65c_grow_92f84_6 rfl rfl rfl ?_
  refine I_if_gt 20 10 dJx4a65c_grow_92f84_7 rfl rfl (fun _ => ?_) (fun _ => ?_)
  · refine I_sub [(0, .ref x0), (1, .int x1), (2, .int v4)] [1, 2, 0] rfl ?_
    exact I_Jx4a65c_grow_92f84_b20 hst x0 x1 v4
  · refine I_aload_n 1 11 dJx4a65c_grow_92f84_10 rfl rfl rfl ?_
    refine I_getA 14 dJx4a65c_grow_92f84_11 rfl cl0 (by decide) wfl_13 sameF_rfl (fun v11 => ?_)
    refine I_gets 17 dJx4a65c_grow_92f84_14 rfl wfl_12 ?_
    refine I_acmp_eq 45 20 dJx4a65c_grow_92f84_17 rfl rfl (fun _ => ?_) (fun _ => ?_)
    · refine I_aload_n 1 46 dJx4a65c_grow_92f84_45 rfl rfl rfl ?_
      refine I_bipush (10 : Int32) 48 dJx4a65c_grow_92f84_46 rfl (by decide) ?_
      refine I_iload_n 2 49 dJx4a65c_grow_92f84_48 rfl rfl rfl ?_
      refine I_mmax 52 dJx4a65c_grow_92f84_49 rfl wml_116 (by decide) (Nat.le_of_ble_eq_true rfl) ?_
      refine I_newq 55 dJx4a65c_grow_92f84_52 rfl wcl_117 (fun v52 => ?_)
      refine I_dup_x1 56 dJx4a65c_grow_92f84_55 rfl rfl rfl ?_
      refine I_put 59 dJx4a65c_grow_92f84_56 rfl cl0 (by decide) wfl_13 sameF_rfl rfl rfl rfl ?_
      exact I_aret dJx4a65c_grow_92f84_59 rfl (Or.inr ⟨_, rfl⟩)
    · refine I_sub [(0, .ref x0), (1, .int x1), (2, .int v4)] [1, 2, 0] rfl ?_
      exact I_Jx4a65c_grow_92f84_b20 hst x0 x1 v4
theorem C_Jx4a65c_grow_92f84 {l : Launch} {g : GX} (hst : l.stackTraces = false) (x0 : Nat) (x1 : Int32) : Cs l g M_Jx4a65c_grow_92f84 cvA [.ref x0, .int x1] (f_Jx4a65c_grow_92f84 (gt0 g) (gmi g) x0 x1) :=
  Cs_of_I [(0, .ref x0), (1, .int x1)] rfl (by decide) hst (Nat.le_of_ble_eq_true rfl) rfl (I_Jx4a65c_grow_92f84 hst x0 x1)
/-! java/util/ArrayList.grow()[Ljava/lang/Object; -/
abbrev M_Jx4a65c_grow_d5877 : MS := (yJx4a65c_grow_d5877, cJx4a65c_grow_d5877, 1, (some (.array (.object "java/lang/Object"))), [], 4, 107)
theorem pd_Jx4a65c_grow_d5877 : (parseMethodDescriptor (mY M_Jx4a65c_grow_d5877).desc).map (fun d => d.parameters.length) = some 0 := by decide +kernel
def f_Jx4a65c_grow_d5877 (t0 mi : Nat) (x0 : Nat) : Mo Nat :=
    bnd (gI x0 0 2) fun v2 =>
    bnd (vc x0 0 (f_Jx4a65c_grow_92f84 t0 mi x0 (v2 + (1 : Int32)))) fun v7 =>
    rt v7
set_option maxRecDepth 20000 in
theorem I_Jx4a65c_grow_d5877 {l : Launch} {g : GX} (hst : l.stackTraces = false) (x0 : Nat) : I l g M_Jx4a65c_grow_d5877 cvA 0 [(0, .ref x0)] [] (f_Jx4a65c_grow_d5877 (gt0 g) (gmi g) x0) := by
  unfold f_Jx4a65c_grow_d5877
  refine I_aload_n 0 1 dJx4a65c_grow_d5877_0 rfl rfl rfl ?_
  refine I_aload_n 0 2 dJx4a65c_grow_d5877_1 rfl rfl rfl ?_
  refine I_getI 5 dJx4a65c_grow_d5877_2 rfl cl0 (by decide) wfl_90 sameF_rfl (fun v2 => ?_)
  refine I_iconst (1 : Int32) 6 dJx4a65c_grow_d5877_5 rfl (by decide) ?_
  refine I_iadd 7 dJx4a65c_grow_d5877_6 rfl ?_
  refine I_callVa (As := [.int (v2 + (1 : Int32))]) (rest := []) 10 (C_Jx4a65c_grow_92f84 hst x0 (v2 + (1 : Int32))) dJx4a65c_grow_d5877_7 rfl cl0 rfl (by decide) (Nat.le_of_ble_eq_true rfl) wcd_118 win_20 wml_119 wim_120 wse_121 ⟨by decide, by decide, pd_Jx4a65c_grow_92f84⟩ (fun x hx => by cases hx) (fun v7 => ?_)
  exact I_aret dJx4a65c_grow_d5877_10 rfl (Or.inr ⟨_, rfl⟩)
theorem C_Jx4a65c_grow_d5877 {l : Launch} {g : GX} (hst : l.stackTraces = false) (x0 : Nat) : Cs l g M_Jx4a65c_grow_d5877 cvA [.ref x0] (f_Jx4a65c_grow_d5877 (gt0 g) (gmi g) x0) :=
  Cs_of_I [(0, .ref x0)] rfl (by decide) hst (Nat.le_of_ble_eq_true rfl) rfl (I_Jx4a65c_grow_d5877 hst x0)
/-! java/util/ArrayList.add(Ljava/lang/Object;[Ljava/lang/Object;I)V -/
abbrev M_Jx4a65c_add_72be8 : MS := (yJx4a65c_add_72be8, cJx4a65c_add_72be8, 4, none, [], 5, 127)
theorem pd_Jx4a65c_add_72be8 : (parseMethodDescriptor (mY M_Jx4a65c_add_72be8).desc).map (fun d => d.parameters.length) = some 3 := by decide +kernel
def Jx4a65c_add_72be8_b11 (t0 mi : Nat) (x0 : Nat) (x1 : Nat) (x2 : Nat) (x3 : Int32) : Mo Unit :=
    bnd (stR x2 x3 x1) fun _ =>
    bnd (pV x0 0 2 (.int (x3 + (1 : Int32)))) fun _ =>
    rt ()
set_option maxRecDepth 20000 in
theorem I_Jx4a65c_add_72be8_b11 {l : Launch} {g : GX} (hst : l.stackTraces = false) (x0 : Nat) (x1 : Nat) (x2 : Nat) (x3 : Int32) : I l g M_Jx4a65c_add_72be8 cvU 11 [(0, .ref x0), (1, .ref x1), (2, .ref x2), (3, .int x3)] [] (Jx4a65c_add_72be8_b11 (gt0 g) (gmi g) x0 x1 x2 x3) := by
  unfold Jx4a65c_add_72be8_b11
  refine I_aload_n 2 12 dJx4a65c_add_72be8_11 rfl rfl rfl ?_
  refine I_iload_n 3 13 dJx4a65c_add_72be8_12 rfl rfl rfl ?_
  refine I_aload_n 1 14 dJx4a65c_add_72be8_13 rfl rfl rfl ?_
  refine I_aast 15 dJx4a65c_add_72be8_14 rfl xc_box xc_train ?_
  refine I_aload_n 0 16 dJx4a65c_add_72be8_15 rfl rfl rfl ?_
  refine I_iload_n 3 17 dJx4a65c_add_72be8_16 rfl rfl rfl ?_
  refine I_iconst (1 : Int32) 18 dJx4a65c_add_72be8_17 rfl (by decide) ?_
  refine I_iadd 19 dJx4a65c_add_72be8_18 rfl ?_
  refine I_put 22 dJx4a65c_add_72be8_19 rfl cl0 (by decide) wfl_90 sameF_rfl rfl rfl rfl ?_
  exact I_vret dJx4a65c_add_72be8_22 rfl
def f_Jx4a65c_add_72be8 (t0 mi : Nat) (x0 : Nat) (x1 : Nat) (x2 : Nat) (x3 : Int32) : Mo Unit :=
    bnd (alenT t0 x2) fun v2 =>
    (if x3 = v2 then
    bnd (vc x0 0 (f_Jx4a65c_grow_d5877 t0 mi x0)) fun v7 =>
    Jx4a65c_add_72be8_b11 t0 mi x0 x1 v7 x3
    else
    Jx4a65c_add_72be8_b11 t0 mi x0 x1 x2 x3)
set_option maxRecDepth 20000 in
theorem I_Jx4a65c_add_72be8 {l : Launch} {g : GX} (hst : l.stackTraces = false) (x0 : Nat) (x1 : Nat) (x2 : Nat) (x3 : Int32) : I l g M_Jx4a65c_add_72be8 cvU 0 [(0, .ref x0), (1, .ref x1), (2, .ref x2), (3, .int x3)] [] (f_Jx4a65c_add_72be8 (gt0 g) (gmi g) x0 x1 x2 x3) := by
  unfold f_Jx4a65c_add_72be8
  refine I_iload_n 3 1 dJx4a65c_add_72be8_0 rfl rfl rfl ?_
  refine I_aload_n 2 2 dJx4a65c_add_72be8_1 rfl rfl rfl ?_
  refine I_alenT 3 dJx4a65c_add_72be8_2 rfl (fun v2 => ?_)
  refine I_icmp_ne 11 6 dJx4a65c_add_72be8_3 rfl rfl (fun _ => ?_) (fun _ => ?_)
  · refine I_aload_n 0 7 dJx4a65c_add_72be8_6 rfl rfl rfl ?_
    refine I_callVa (As := []) (rest := []) 10 (C_Jx4a65c_grow_d5877 hst x0) dJx4a65c_add_72be8_7 rfl cl0 rfl (by decide) (Nat.le_of_ble_eq_true rfl) wcd_122 win_20 wml_123 wim_124 wse_125 ⟨by decide, by decide, pd_Jx4a65c_grow_d5877⟩ (fun x hx => by cases hx) (fun v7 => ?_)
    refine I_astore_n 11 [(2, .ref v7), (0, .ref x0), (1, .ref x1), (3, .int x3)] dJx4a65c_add_72be8_10 rfl rfl (by decide) rfl ?_
    refine I_sub [(0, .ref x0), (1, .ref x1), (2, .ref v7), (3, .int x3)] [1, 2, 0, 3] rfl ?_
    exact I_Jx4a65c_add_72be8_b11 hst x0 x1 v7 x3
  · refine I_sub [(0, .ref x0), (1, .ref x1), (2, .ref x2), (3, .int x3)] [0, 1, 2, 3] rfl ?_
    exact I_Jx4a65c_add_72be8_b11 hst x0 x1 x2 x3
theorem C_Jx4a65c_add_72be8 {l : Launch} {g : GX} (hst : l.stackTraces = false) (x0 : Nat) (x1 : Nat) (x2 : Nat) (x3 : Int32) : Cs l g M_Jx4a65c_add_72be8 cvU [.ref x0, .ref x1, .ref x2, .int x3] (f_Jx4a65c_add_72be8 (gt0 g) (gmi g) x0 x1 x2 x3) :=
  Cs_of_I [(0, .ref x0), (1, .ref x1), (2, .ref x2), (3, .int x3)] rfl (by decide) hst (Nat.le_of_ble_eq_true rfl) rfl (I_Jx4a65c_add_72be8 hst x0 x1 x2 x3)
/-! java/util/ArrayList.add(Ljava/lang/Object;)Z -/
abbrev M_Jx4a65c_add_9ea2d : MS := (yJx4a65c_add_9ea2d, cJx4a65c_add_9ea2d, 2, (some .boolean), [], 6, 150)
theorem pd_Jx4a65c_add_9ea2d : (parseMethodDescriptor (mY M_Jx4a65c_add_9ea2d).desc).map (fun d => d.parameters.length) = some 1 := by decide +kernel
def f_Jx4a65c_add_9ea2d (t0 mi : Nat) (x0 : Nat) (x1 : Nat) : Mo Int32 :=
    bnd (gI x0 0 0) fun v2 =>
    bnd (pV x0 0 0 (.int (v2 + (1 : Int32)))) fun _ =>
    bnd (gA' x0 0 1) fun v13 =>
    bnd (gI x0 0 2) fun v17 =>
    bnd (vc x0 0 (f_Jx4a65c_add_72be8 t0 mi x0 x1 v13 v17)) fun _ =>
    rtZ (1 : Int32)
set_option maxRecDepth 20000 in
theorem I_Jx4a65c_add_9ea2d {l : Launch} {g : GX} (hst : l.stackTraces = false) (x0 : Nat) (x1 : Nat) : I l g M_Jx4a65c_add_9ea2d cvI 0 [(0, .ref x0), (1, .ref x1)] [] (f_Jx4a65c_add_9ea2d (gt0 g) (gmi g) x0 x1) := by
  unfold f_Jx4a65c_add_9ea2d
  refine I_aload_n 0 1 dJx4a65c_add_9ea2d_0 rfl rfl rfl ?_
  refine I_dup 2 dJx4a65c_add_9ea2d_1 rfl rfl ?_
  refine I_getI 5 dJx4a65c_add_9ea2d_2 rfl cl0 (by decide) wfl_126 sameF_mod (fun v2 => ?_)
  refine I_iconst (1 : Int32) 6 dJx4a65c_add_9ea2d_5 rfl (by decide) ?_
  refine I_iadd 7 dJx4a65c_add_9ea2d_6 rfl ?_
  refine I_put 10 dJx4a65c_add_9ea2d_7 rfl cl0 (by decide) wfl_126 sameF_mod rfl rfl rfl ?_
  refine I_aload_n 0 11 dJx4a65c_add_9ea2d_10 rfl rfl rfl ?_
  refine I_aload_n 1 12 dJx4a65c_add_9ea2d_11 rfl rfl rfl ?_
  refine I_aload_n 0 13 dJx4a65c_add_9ea2d_12 rfl rfl rfl ?_
  refine I_getA 16 dJx4a65c_add_9ea2d_13 rfl cl0 (by decide) wfl_13 sameF_rfl (fun v13 => ?_)
  refine I_aload_n 0 17 dJx4a65c_add_9ea2d_16 rfl rfl rfl ?_
  refine I_getI 20 dJx4a65c_add_9ea2d_17 rfl cl0 (by decide) wfl_90 sameF_rfl (fun v17 => ?_)
  refine I_callVv (As := [.ref x1, .ref v13, .int v17]) (rest := []) 23 (C_Jx4a65c_add_72be8 hst x0 x1 v13 v17) dJx4a65c_add_9ea2d_20 rfl cl0 rfl (by decide) (Nat.le_of_ble_eq_true rfl) wcd_127 win_20 wml_128 wim_129 wse_130 ⟨by decide, by decide, pd_Jx4a65c_add_72be8⟩ (fun x hx => by cases hx) (fun _ => ?_)
  refine I_iconst (1 : Int32) 24 dJx4a65c_add_9ea2d_23 rfl (by decide) ?_
  exact I_zret dJx4a65c_add_9ea2d_24 rfl
theorem C_Jx4a65c_add_9ea2d {l : Launch} {g : GX} (hst : l.stackTraces = false) (x0 : Nat) (x1 : Nat) : Cs l g M_Jx4a65c_add_9ea2d cvI [.ref x0, .ref x1] (f_Jx4a65c_add_9ea2d (gt0 g) (gmi g) x0 x1) :=
  Cs_of_I [(0, .ref x0), (1, .ref x1)] rfl (by decide) hst (Nat.le_of_ble_eq_true rfl) rfl (I_Jx4a65c_add_9ea2d hst x0 x1)
/-! LunchMarks$Network.addTrain(I)I -/
abbrev M_X2_addTrain : MS := (yX2_addTrain, cX2_addTrain, 2, (some .int), [], 7, 171)
theorem pd_X2_addTrain : (parseMethodDescriptor (mY M_X2_addTrain).desc).map (fun d => d.parameters.length) = some 1 := by decide +kernel
def f_X2_addTrain (t0 mi : Nat) (x0 : Nat) (x1 : Int32) : Mo Int32 :=
    bnd (gA' x0 3 2) fun v1 =>
    bnd (vc v1 0 (f_Jx4a65c_size_8abf5 t0 mi v1)) fun v4 =>
    (if v4 < (16 : Int32) then
    bnd (gA' x0 3 2) fun v15 =>
    bnd (newO 4 6 [.int 0, .null, .null, .null, .int 0, .int 0]) fun v18 =>
    bnd (f_X3_init t0 mi v18 x1) fun _ =>
    bnd (vc v15 0 (f_Jx4a65c_add_9ea2d t0 mi v15 v18)) fun v26 =>
    bnd (gA' x0 3 2) fun v31 =>
    bnd (vc v31 0 (f_Jx4a65c_size_8abf5 t0 mi v31)) fun v34 =>
    rt (v34 - (1 : Int32))
    else
    rt (-1 : Int32))
set_option maxRecDepth 20000 in
theorem I_X2_addTrain {l : Launch} {g : GX} (hst : l.stackTraces = false) (x0 : Nat) (x1 : Int32) : I l g M_X2_addTrain cvI 0 [(0, .ref x0), (1, .int x1)] [] (f_X2_addTrain (gt0 g) (gmi g) x0 x1) := by
  unfold f_X2_addTrain
  refine I_aload_n 0 1 dX2_addTrain_0 rfl rfl rfl ?_
  refine I_getA 4 dX2_addTrain_1 rfl cl3 (by decide) wfl_24 sameF_rfl (fun v1 => ?_)
  refine I_callVi (As := []) (rest := []) 7 (C_Jx4a65c_size_8abf5 hst v1) dX2_addTrain_4 rfl cl0 rfl (by decide) (Nat.le_of_ble_eq_true rfl) wcd_131 win_20 wml_132 wim_133 wse_134 ⟨by decide, by decide, pd_Jx4a65c_size_8abf5⟩ (fun x hx => by cases hx) (fun v4 => ?_)
  refine I_bipush (16 : Int32) 9 dX2_addTrain_7 rfl (by decide) ?_
  refine I_icmp_lt 14 12 dX2_addTrain_9 rfl rfl (fun _ => ?_) (fun _ => ?_)
  · refine I_aload_n 0 15 dX2_addTrain_14 rfl rfl rfl ?_
    refine I_getA 18 dX2_addTrain_15 rfl cl3 (by decide) wfl_24 sameF_rfl (fun v15 => ?_)
    refine I_new 21 dX2_addTrain_18 rfl cl4 wcl_135 wit_136 win_137 df4 (fun v18 => ?_)
    refine I_dup 22 dX2_addTrain_21 rfl rfl ?_
    refine I_iload_n 1 23 dX2_addTrain_22 rfl rfl rfl ?_
    refine I_init (As := [.int x1]) (rest := [.ref v18, .ref v15]) 26 (C_X3_init hst v18 x1) (noT_X3_init _ _ _ _) dX2_addTrain_23 rfl rfl rfl (by decide) (Nat.le_of_ble_eq_true rfl) wcd_138 win_137 wml_139 wim_140 rfl ⟨by decide, by decide, pd_X3_init⟩ ?_
    refine I_callVi (As := [.ref v18]) (rest := []) 29 (C_Jx4a65c_add_9ea2d hst v15 v18) dX2_addTrain_26 rfl cl0 rfl (by decide) (Nat.le_of_ble_eq_true rfl) wcd_141 win_20 wml_142 wim_143 wse_144 ⟨by decide, by decide, pd_Jx4a65c_add_9ea2d⟩ (fun x hx => by cases hx) (fun v26 => ?_)
    refine I_pop 30 dX2_addTrain_29 rfl rfl ?_
    refine I_aload_n 0 31 dX2_addTrain_30 rfl rfl rfl ?_
    refine I_getA 34 dX2_addTrain_31 rfl cl3 (by decide) wfl_24 sameF_rfl (fun v31 => ?_)
    refine I_callVi (As := []) (rest := []) 37 (C_Jx4a65c_size_8abf5 hst v31) dX2_addTrain_34 rfl cl0 rfl (by decide) (Nat.le_of_ble_eq_true rfl) wcd_131 win_20 wml_132 wim_133 wse_134 ⟨by decide, by decide, pd_Jx4a65c_size_8abf5⟩ (fun x hx => by cases hx) (fun v34 => ?_)
    refine I_iconst (1 : Int32) 38 dX2_addTrain_37 rfl (by decide) ?_
    refine I_isub 39 dX2_addTrain_38 rfl ?_
    exact I_iret dX2_addTrain_39 rfl
  · refine I_iconst (-1 : Int32) 13 dX2_addTrain_12 rfl (by decide) ?_
    exact I_iret dX2_addTrain_13 rfl
theorem C_X2_addTrain {l : Launch} {g : GX} (hst : l.stackTraces = false) (x0 : Nat) (x1 : Int32) : Cs l g M_X2_addTrain cvI [.ref x0, .int x1] (f_X2_addTrain (gt0 g) (gmi g) x0 x1) :=
  Cs_of_I [(0, .ref x0), (1, .int x1)] rfl (by decide) hst (Nat.le_of_ble_eq_true rfl) rfl (I_X2_addTrain hst x0 x1)
/-! LunchMarks.train(I)I -/
abbrev M_X5_train : MS := (yX5_train, cX5_train, 2, (some .int), [], 8, 192)
theorem pd_X5_train : (parseMethodDescriptor (mY M_X5_train).desc).map (fun d => d.parameters.length) = some 1 := by decide +kernel
def X5_train_b23 (t0 mi : Nat) (s0 : Int32) : Mo Int32 :=
    rt s0
set_option maxRecDepth 20000 in
theorem I_X5_train_b23 {l : Launch} {g : GX} (hst : l.stackTraces = false) (s0 : Int32) : I l g M_X5_train cvI 23 [] [.int s0] (X5_train_b23 (gt0 g) (gmi g) s0) := by
  unfold X5_train_b23
  exact I_iret dX5_train_23 rfl
def X5_train_b22 (t0 mi : Nat) : Mo Int32 :=
    X5_train_b23 t0 mi (-1 : Int32)
set_option maxRecDepth 20000 in
theorem I_X5_train_b22 {l : Launch} {g : GX} (hst : l.stackTraces = false) : I l g M_X5_train cvI 22 [] [] (X5_train_b22 (gt0 g) (gmi g)) := by
  unfold X5_train_b22
  refine I_iconst (-1 : Int32) 23 dX5_train_22 rfl (by decide) ?_
  refine I_sub [] [] rfl ?_
  exact I_X5_train_b23 hst (-1 : Int32)
def f_X5_train (t0 mi : Nat) (x0 : Nat) (x1 : Int32) : Mo Int32 :=
    (if x1 < (1 : Int32) then
    X5_train_b22 t0 mi
    else
    (if (40 : Int32) < x1 then
    X5_train_b22 t0 mi
    else
    bnd (gA' x0 6 0) fun v12 =>
    bnd (vc v12 3 (f_X2_addTrain t0 mi v12 x1)) fun v16 =>
    X5_train_b23 t0 mi v16))
set_option maxRecDepth 20000 in
theorem I_X5_train {l : Launch} {g : GX} (hst : l.stackTraces = false) (x0 : Nat) (x1 : Int32) : I l g M_X5_train cvI 0 [(0, .ref x0), (1, .int x1)] [] (f_X5_train (gt0 g) (gmi g) x0 x1) := by
  unfold f_X5_train
  refine I_iload_n 1 1 dX5_train_0 rfl rfl rfl ?_
  refine I_iconst (1 : Int32) 2 dX5_train_1 rfl (by decide) ?_
  refine I_icmp_lt 22 5 dX5_train_2 rfl rfl (fun _ => ?_) (fun _ => ?_)
  · refine I_sub [] [] rfl ?_
    exact I_X5_train_b22 hst
  · refine I_iload_n 1 6 dX5_train_5 rfl rfl rfl ?_
    refine I_bipush (40 : Int32) 8 dX5_train_6 rfl (by decide) ?_
    refine I_icmp_gt 22 11 dX5_train_8 rfl rfl (fun _ => ?_) (fun _ => ?_)
    · refine I_sub [] [] rfl ?_
      exact I_X5_train_b22 hst
    · refine I_aload_n 0 12 dX5_train_11 rfl rfl rfl ?_
      refine I_getA 15 dX5_train_12 rfl cl6 (by decide) wfl_38 sameF_rfl (fun v12 => ?_)
      refine I_iload_n 1 16 dX5_train_15 rfl rfl rfl ?_
      refine I_callVi (As := [.int x1]) (rest := []) 19 (C_X2_addTrain hst v12 x1) dX5_train_16 rfl cl3 rfl (by decide) (Nat.le_of_ble_eq_true rfl) wcd_145 win_34 wml_146 wim_147 wse_148 ⟨by decide, by decide, pd_X2_addTrain⟩ (fun x hx => by cases hx) (fun v16 => ?_)
      refine I_goto 23 dX5_train_19 rfl ?_
      refine I_sub [] [] rfl ?_
      exact I_X5_train_b23 hst v16
theorem C_X5_train {l : Launch} {g : GX} (hst : l.stackTraces = false) (x0 : Nat) (x1 : Int32) : Cs l g M_X5_train cvI [.ref x0, .int x1] (f_X5_train (gt0 g) (gmi g) x0 x1) :=
  Cs_of_I [(0, .ref x0), (1, .int x1)] rfl (by decide) hst (Nat.le_of_ble_eq_true rfl) rfl (I_X5_train hst x0 x1)
/-! LunchMarksModel.train(I)I -/
abbrev M_X6_train : MS := (yX6_train, cX6_train, 2, (some .int), [], 0, 0)
theorem pd_X6_train : (parseMethodDescriptor (mY M_X6_train).desc).map (fun d => d.parameters.length) = some 1 := by decide +kernel
def X6_train_b25 (t0 mi : Nat) : Mo Int32 :=
    rt (-1 : Int32)
set_option maxRecDepth 20000 in
theorem I_X6_train_b25 {l : Launch} {g : GX} (hst : l.stackTraces = false) : I l g M_X6_train cvI 25 [] [] (X6_train_b25 (gt0 g) (gmi g)) := by
  unfold X6_train_b25
  refine I_iconst (-1 : Int32) 26 dX6_train_25 rfl (by decide) ?_
  exact I_iret dX6_train_26 rfl
def f_X6_train (t0 mi : Nat) (x0 : Nat) (x1 : Int32) : Mo Int32 :=
    bnd (pV x0 7 0 (.int (0 : Int32))) fun _ =>
    bnd (gI x0 7 3) fun v6 =>
    (if v6 = (16 : Int32) then
    X6_train_b25 t0 mi
    else
    (if x1 < (1 : Int32) then
    X6_train_b25 t0 mi
    else
    (if x1 ≤ (40 : Int32) then
    bnd (gA' x0 7 7) fun v28 =>
    bnd (gI x0 7 3) fun v32 =>
    bnd (stK 0 v28 v32 x1) fun _ =>
    bnd (gI x0 7 3) fun v39 =>
    bnd (pV x0 7 3 (.int (v39 + (1 : Int32)))) fun _ =>
    bnd (gI x0 7 3) fun v48 =>
    rt (v48 - (1 : Int32))
    else
    X6_train_b25 t0 mi)))
set_option maxRecDepth 20000 in
theorem I_X6_train {l : Launch} {g : GX} (hst : l.stackTraces = false) (x0 : Nat) (x1 : Int32) : I l g M_X6_train cvI 0 [(0, .ref x0), (1, .int x1)] [] (f_X6_train (gt0 g) (gmi g) x0 x1) := by
  unfold f_X6_train
  refine I_aload_n 0 1 dX6_train_0 rfl rfl rfl ?_
  refine I_iconst (0 : Int32) 2 dX6_train_1 rfl (by decide) ?_
  refine I_put 5 dX6_train_2 rfl cl7 (by decide) wfl_88 sameF_rfl rfl rfl rfl ?_
  refine I_aload_n 0 6 dX6_train_5 rfl rfl rfl ?_
  refine I_getI 9 dX6_train_6 rfl cl7 (by decide) wfl_149 sameF_rfl (fun v6 => ?_)
  refine I_bipush (16 : Int32) 11 dX6_train_9 rfl (by decide) ?_
  refine I_icmp_eq 25 14 dX6_train_11 rfl rfl (fun _ => ?_) (fun _ => ?_)
  · refine I_sub [] [] rfl ?_
    exact I_X6_train_b25 hst
  · refine I_iload_n 1 15 dX6_train_14 rfl rfl rfl ?_
    refine I_iconst (1 : Int32) 16 dX6_train_15 rfl (by decide) ?_
    refine I_icmp_lt 25 19 dX6_train_16 rfl rfl (fun _ => ?_) (fun _ => ?_)
    · refine I_sub [] [] rfl ?_
      exact I_X6_train_b25 hst
    · refine I_iload_n 1 20 dX6_train_19 rfl rfl rfl ?_
      refine I_bipush (40 : Int32) 22 dX6_train_20 rfl (by decide) ?_
      refine I_icmp_le 27 25 dX6_train_22 rfl rfl (fun _ => ?_) (fun _ => ?_)
      · refine I_aload_n 0 28 dX6_train_27 rfl rfl rfl ?_
        refine I_getA 31 dX6_train_28 rfl cl7 (by decide) wfl_53 sameF_rfl (fun v28 => ?_)
        refine I_aload_n 0 32 dX6_train_31 rfl rfl rfl ?_
        refine I_getI 35 dX6_train_32 rfl cl7 (by decide) wfl_149 sameF_rfl (fun v32 => ?_)
        refine I_iload_n 1 36 dX6_train_35 rfl rfl rfl ?_
        refine I_iast 37 dX6_train_36 rfl ?_
        refine I_aload_n 0 38 dX6_train_37 rfl rfl rfl ?_
        refine I_dup 39 dX6_train_38 rfl rfl ?_
        refine I_getI 42 dX6_train_39 rfl cl7 (by decide) wfl_149 sameF_rfl (fun v39 => ?_)
        refine I_iconst (1 : Int32) 43 dX6_train_42 rfl (by decide) ?_
        refine I_iadd 44 dX6_train_43 rfl ?_
        refine I_put 47 dX6_train_44 rfl cl7 (by decide) wfl_149 sameF_rfl rfl rfl rfl ?_
        refine I_aload_n 0 48 dX6_train_47 rfl rfl rfl ?_
        refine I_getI 51 dX6_train_48 rfl cl7 (by decide) wfl_149 sameF_rfl (fun v48 => ?_)
        refine I_iconst (1 : Int32) 52 dX6_train_51 rfl (by decide) ?_
        refine I_isub 53 dX6_train_52 rfl ?_
        exact I_iret dX6_train_53 rfl
      · refine I_sub [] [] rfl ?_
        exact I_X6_train_b25 hst
theorem C_X6_train {l : Launch} {g : GX} (hst : l.stackTraces = false) (x0 : Nat) (x1 : Int32) : Cs l g M_X6_train cvI [.ref x0, .int x1] (f_X6_train (gt0 g) (gmi g) x0 x1) :=
  Cs_of_I [(0, .ref x0), (1, .int x1)] rfl (by decide) hst (Nat.le_of_ble_eq_true rfl) rfl (I_X6_train hst x0 x1)
/-! jdk/internal/util/Preconditions.checkIndex(IILjava/util/function/BiFunction;)I -/
abbrev M_J3_checkIndex_8e157 : MS := (yJ3_checkIndex_8e157, cJ3_checkIndex_8e157, 3, (some .int), [], 0, 0)
theorem pd_J3_checkIndex_8e157 : (parseMethodDescriptor (mY M_J3_checkIndex_8e157).desc).map (fun d => d.parameters.length) = some 3 := by decide +kernel
def J3_checkIndex_8e157_b9 (t0 mi : Nat) (x0 : Int32) (x1 : Int32) : Mo Int32 :=
    flr
set_option maxRecDepth 20000 in
theorem I_J3_checkIndex_8e157_b9 {l : Launch} {g : GX} (hst : l.stackTraces = false) (x0 : Int32) (x1 : Int32) : I l g M_J3_checkIndex_8e157 cvI 9 [(0, .int x0), (1, .int x1), (2, .null)] [] (J3_checkIndex_8e157_b9 (gt0 g) (gmi g) x0 x1) := by
  unfold J3_checkIndex_8e157_b9
  refine I_aload_nN 2 10 dJ3_checkIndex_8e157_9 rfl rfl rfl ?_
  refine I_iload_n 0 11 dJ3_checkIndex_8e157_10 rfl rfl rfl ?_
  refine I_iload_n 1 12 dJ3_checkIndex_8e157_11 rfl rfl rfl ?_
  exact I_flr
def f_J3_checkIndex_8e157 (t0 mi : Nat) (x0 : Int32) (x1 : Int32) : Mo Int32 :=
    (if x0 < 0 then
    J3_checkIndex_8e157_b9 t0 mi x0 x1
    else
    (if x0 < x1 then
    rt x0
    else
    J3_checkIndex_8e157_b9 t0 mi x0 x1))
set_option maxRecDepth 20000 in
theorem I_J3_checkIndex_8e157 {l : Launch} {g : GX} (hst : l.stackTraces = false) (x0 : Int32) (x1 : Int32) : I l g M_J3_checkIndex_8e157 cvI 0 [(0, .int x0), (1, .int x1), (2, .null)] [] (f_J3_checkIndex_8e157 (gt0 g) (gmi g) x0 x1) := by
  unfold f_J3_checkIndex_8e157
  refine I_iload_n 0 1 dJ3_checkIndex_8e157_0 rfl rfl rfl ?_
  refine I_if_lt 9 4 dJ3_checkIndex_8e157_1 rfl rfl (fun _ => ?_) (fun _ => ?_)
  · refine I_sub [(0, .int x0), (1, .int x1), (2, .null)] [0, 1, 2] rfl ?_
    exact I_J3_checkIndex_8e157_b9 hst x0 x1
  · refine I_iload_n 0 5 dJ3_checkIndex_8e157_4 rfl rfl rfl ?_
    refine I_iload_n 1 6 dJ3_checkIndex_8e157_5 rfl rfl rfl ?_
    refine I_icmp_lt 16 9 dJ3_checkIndex_8e157_6 rfl rfl (fun _ => ?_) (fun _ => ?_)
    · refine I_iload_n 0 17 dJ3_checkIndex_8e157_16 rfl rfl rfl ?_
      exact I_iret dJ3_checkIndex_8e157_17 rfl
    · refine I_sub [(0, .int x0), (1, .int x1), (2, .null)] [0, 1, 2] rfl ?_
      exact I_J3_checkIndex_8e157_b9 hst x0 x1
theorem C_J3_checkIndex_8e157 {l : Launch} {g : GX} (hst : l.stackTraces = false) (x0 : Int32) (x1 : Int32) : Cs l g M_J3_checkIndex_8e157 cvI [.int x0, .int x1, .null] (f_J3_checkIndex_8e157 (gt0 g) (gmi g) x0 x1) :=
  Cs_of_I [(0, .int x0), (1, .int x1), (2, .null)] rfl (by decide) hst (Nat.le_of_ble_eq_true rfl) rfl (I_J3_checkIndex_8e157 hst x0 x1)
/-! java/util/Objects.checkIndex(II)I -/
abbrev M_J15_checkIndex_7cf53 : MS := (yJ15_checkIndex_7cf53, cJ15_checkIndex_7cf53, 2, (some .int), [], 1, 22)
theorem pd_J15_checkIndex_7cf53 : (parseMethodDescriptor (mY M_J15_checkIndex_7cf53).desc).map (fun d => d.parameters.length) = some 2 := by decide +kernel
def f_J15_checkIndex_7cf53 (t0 mi : Nat) (x0 : Int32) (x1 : Int32) : Mo Int32 :=
    bnd (f_J3_checkIndex_8e157 t0 mi x0 x1) fun v3 =>
    rt v3
set_option maxRecDepth 20000 in
theorem I_J15_checkIndex_7cf53 {l : Launch} {g : GX} (hst : l.stackTraces = false) (x0 : Int32) (x1 : Int32) : I l g M_J15_checkIndex_7cf53 cvI 0 [(0, .int x0), (1, .int x1)] [] (f_J15_checkIndex_7cf53 (gt0 g) (gmi g) x0 x1) := by
  unfold f_J15_checkIndex_7cf53
  refine I_iload_n 0 1 dJ15_checkIndex_7cf53_0 rfl rfl rfl ?_
  refine I_iload_n 1 2 dJ15_checkIndex_7cf53_1 rfl rfl rfl ?_
  refine I_aconst_null 3 dJ15_checkIndex_7cf53_2 rfl ?_
  refine I_callSi (As := [.int x0, .int x1, .null]) (rest := []) 6 (C_J3_checkIndex_8e157 hst x0 x1) dJ15_checkIndex_7cf53_3 rfl rfl (by decide) (Nat.le_of_ble_eq_true rfl) wcd_150 win_151 wml_152 wst_153 ⟨by decide, by decide, pd_J3_checkIndex_8e157⟩ (fun x hx => by cases hx) (fun v3 => ?_)
  exact I_iret dJ15_checkIndex_7cf53_6 rfl
theorem C_J15_checkIndex_7cf53 {l : Launch} {g : GX} (hst : l.stackTraces = false) (x0 : Int32) (x1 : Int32) : Cs l g M_J15_checkIndex_7cf53 cvI [.int x0, .int x1] (f_J15_checkIndex_7cf53 (gt0 g) (gmi g) x0 x1) :=
  Cs_of_I [(0, .int x0), (1, .int x1)] rfl (by decide) hst (Nat.le_of_ble_eq_true rfl) rfl (I_J15_checkIndex_7cf53 hst x0 x1)
/-! java/util/ArrayList.elementData(I)Ljava/lang/Object; -/
abbrev M_Jx4a65c_elementData_915e3 : MS := (yJx4a65c_elementData_915e3, cJx4a65c_elementData_915e3, 2, (some (.object "java/lang/Object")), [], 0, 0)
theorem pd_Jx4a65c_elementData_915e3 : (parseMethodDescriptor (mY M_Jx4a65c_elementData_915e3).desc).map (fun d => d.parameters.length) = some 1 := by decide +kernel
def f_Jx4a65c_elementData_915e3 (t0 mi : Nat) (x0 : Nat) (x1 : Int32) : Mo Nat :=
    bnd (gA' x0 0 1) fun v1 =>
    bnd (ldR 3 v1 x1) fun v5 =>
    rt v5
set_option maxRecDepth 20000 in
theorem I_Jx4a65c_elementData_915e3 {l : Launch} {g : GX} (hst : l.stackTraces = false) (x0 : Nat) (x1 : Int32) : I l g M_Jx4a65c_elementData_915e3 cvA 0 [(0, .ref x0), (1, .int x1)] [] (f_Jx4a65c_elementData_915e3 (gt0 g) (gmi g) x0 x1) := by
  unfold f_Jx4a65c_elementData_915e3
  refine I_aload_n 0 1 dJx4a65c_elementData_915e3_0 rfl rfl rfl ?_
  refine I_getA 4 dJx4a65c_elementData_915e3_1 rfl cl0 (by decide) wfl_13 sameF_rfl (fun v1 => ?_)
  refine I_iload_n 1 5 dJx4a65c_elementData_915e3_4 rfl rfl rfl ?_
  refine I_aald3 6 dJx4a65c_elementData_915e3_5 rfl (fun v5 => ?_)
  exact I_aret dJx4a65c_elementData_915e3_6 rfl (Or.inl ⟨_, rfl⟩)
theorem C_Jx4a65c_elementData_915e3 {l : Launch} {g : GX} (hst : l.stackTraces = false) (x0 : Nat) (x1 : Int32) : Cs l g M_Jx4a65c_elementData_915e3 cvA [.ref x0, .int x1] (f_Jx4a65c_elementData_915e3 (gt0 g) (gmi g) x0 x1) :=
  Cs_of_I [(0, .ref x0), (1, .int x1)] rfl (by decide) hst (Nat.le_of_ble_eq_true rfl) rfl (I_Jx4a65c_elementData_915e3 hst x0 x1)
/-! java/util/ArrayList.get(I)Ljava/lang/Object; -/
abbrev M_Jx4a65c_get_915e3 : MS := (yJx4a65c_get_915e3, cJx4a65c_get_915e3, 2, (some (.object "java/lang/Object")), [], 2, 43)
theorem pd_Jx4a65c_get_915e3 : (parseMethodDescriptor (mY M_Jx4a65c_get_915e3).desc).map (fun d => d.parameters.length) = some 1 := by decide +kernel
def f_Jx4a65c_get_915e3 (t0 mi : Nat) (x0 : Nat) (x1 : Int32) : Mo Nat :=
    bnd (gI x0 0 2) fun v2 =>
    bnd (f_J15_checkIndex_7cf53 t0 mi x1 v2) fun v5 =>
    bnd (vc x0 0 (f_Jx4a65c_elementData_915e3 t0 mi x0 x1)) fun v11 =>
    rt v11
set_option maxRecDepth 20000 in
theorem I_Jx4a65c_get_915e3 {l : Launch} {g : GX} (hst : l.stackTraces = false) (x0 : Nat) (x1 : Int32) : I l g M_Jx4a65c_get_915e3 cvA 0 [(0, .ref x0), (1, .int x1)] [] (f_Jx4a65c_get_915e3 (gt0 g) (gmi g) x0 x1) := by
  unfold f_Jx4a65c_get_915e3
  refine I_iload_n 1 1 dJx4a65c_get_915e3_0 rfl rfl rfl ?_
  refine I_aload_n 0 2 dJx4a65c_get_915e3_1 rfl rfl rfl ?_
  refine I_getI 5 dJx4a65c_get_915e3_2 rfl cl0 (by decide) wfl_90 sameF_rfl (fun v2 => ?_)
  refine I_callSi (As := [.int x1, .int v2]) (rest := []) 8 (C_J15_checkIndex_7cf53 hst x1 v2) dJx4a65c_get_915e3_5 rfl rfl (by decide) (Nat.le_of_ble_eq_true rfl) wcd_154 win_155 wml_156 wst_157 ⟨by decide, by decide, pd_J15_checkIndex_7cf53⟩ (fun x hx => by cases hx) (fun v5 => ?_)
  refine I_pop 9 dJx4a65c_get_915e3_8 rfl rfl ?_
  refine I_aload_n 0 10 dJx4a65c_get_915e3_9 rfl rfl rfl ?_
  refine I_iload_n 1 11 dJx4a65c_get_915e3_10 rfl rfl rfl ?_
  refine I_callVa (As := [.int x1]) (rest := []) 14 (C_Jx4a65c_elementData_915e3 hst x0 x1) dJx4a65c_get_915e3_11 rfl cl0 rfl (by decide) (Nat.le_of_ble_eq_true rfl) wcd_158 win_20 wml_159 wim_160 wse_161 ⟨by decide, by decide, pd_Jx4a65c_elementData_915e3⟩ (fun x hx => by cases hx) (fun v11 => ?_)
  exact I_aret dJx4a65c_get_915e3_14 rfl (Or.inl ⟨_, rfl⟩)
theorem C_Jx4a65c_get_915e3 {l : Launch} {g : GX} (hst : l.stackTraces = false) (x0 : Nat) (x1 : Int32) : Cs l g M_Jx4a65c_get_915e3 cvA [.ref x0, .int x1] (f_Jx4a65c_get_915e3 (gt0 g) (gmi g) x0 x1) :=
  Cs_of_I [(0, .ref x0), (1, .int x1)] rfl (by decide) hst (Nat.le_of_ble_eq_true rfl) rfl (I_Jx4a65c_get_915e3 hst x0 x1)
/-! LunchMarks.trainOf(I)LLunchMarks$Train; -/
abbrev M_X5_trainOf : MS := (yX5_trainOf, cX5_trainOf, 2, (some (.object "LunchMarks$Train")), [], 6, 82)
theorem pd_X5_trainOf : (parseMethodDescriptor (mY M_X5_trainOf).desc).map (fun d => d.parameters.length) = some 1 := by decide +kernel
def X5_trainOf_b18 (t0 mi : Nat) : Mo Nat :=
    thr "java/util/NoSuchElementException"
set_option maxRecDepth 20000 in
theorem I_X5_trainOf_b18 {l : Launch} {g : GX} (hst : l.stackTraces = false) : I l g M_X5_trainOf cvA 18 [] [] (X5_trainOf_b18 (gt0 g) (gmi g)) := by
  unfold X5_trainOf_b18
  exact I_throwX (rx := nseC) (by decide +kernel) (by decide +kernel) (by decide +kernel) (by decide +kernel) (k := 7) (names := thn) dX5_trainOf_18 dX5_trainOf_21 dX5_trainOf_22 dX5_trainOf_24 dX5_trainOf_27 rfl rfl (by decide) (by decide) wcl_162 win_163 thN_167 tgN_167 rfl (by decide) (Nat.le_of_ble_eq_true rfl)
def f_X5_trainOf (t0 mi : Nat) (x0 : Nat) (x1 : Int32) : Mo Nat :=
    (if x1 < 0 then
    X5_trainOf_b18 t0 mi
    else
    bnd (gA' x0 6 0) fun v6 =>
    bnd (gA' v6 3 2) fun v9 =>
    bnd (vc v9 0 (f_Jx4a65c_size_8abf5 t0 mi v9)) fun v12 =>
    (if x1 < v12 then
    bnd (gA' x0 6 0) fun v29 =>
    bnd (gA' v29 3 2) fun v32 =>
    bnd (vc v32 0 (f_Jx4a65c_get_915e3 t0 mi v32 x1)) fun v36 =>
    bnd (isC v36 4) fun _ =>
    rt v36
    else
    X5_trainOf_b18 t0 mi))
set_option maxRecDepth 20000 in
theorem I_X5_trainOf {l : Launch} {g : GX} (hst : l.stackTraces = false) (x0 : Nat) (x1 : Int32) : I l g M_X5_trainOf cvA 0 [(0, .ref x0), (1, .int x1)] [] (f_X5_trainOf (gt0 g) (gmi g) x0 x1) := by
  unfold f_X5_trainOf
  refine I_iload_n 1 1 dX5_trainOf_0 rfl rfl rfl ?_
  refine I_if_lt 18 4 dX5_trainOf_1 rfl rfl (fun _ => ?_) (fun _ => ?_)
  · refine I_sub [] [] rfl ?_
    exact I_X5_trainOf_b18 hst
  · refine I_iload_n 1 5 dX5_trainOf_4 rfl rfl rfl ?_
    refine I_aload_n 0 6 dX5_trainOf_5 rfl rfl rfl ?_
    refine I_getA 9 dX5_trainOf_6 rfl cl6 (by decide) wfl_38 sameF_rfl (fun v6 => ?_)
    refine I_getA 12 dX5_trainOf_9 rfl cl3 (by decide) wfl_164 sameF_rfl (fun v9 => ?_)
    refine I_callVi (As := []) (rest := [.int x1]) 15 (C_Jx4a65c_size_8abf5 hst v9) dX5_trainOf_12 rfl cl0 rfl (by decide) (Nat.le_of_ble_eq_true rfl) wcd_131 win_20 wml_165 wim_133 wse_134 ⟨by decide, by decide, pd_Jx4a65c_size_8abf5⟩ (fun x hx => by cases hx) (fun v12 => ?_)
    refine I_icmp_lt 28 18 dX5_trainOf_15 rfl rfl (fun _ => ?_) (fun _ => ?_)
    · refine I_aload_n 0 29 dX5_trainOf_28 rfl rfl rfl ?_
      refine I_getA 32 dX5_trainOf_29 rfl cl6 (by decide) wfl_38 sameF_rfl (fun v29 => ?_)
      refine I_getA 35 dX5_trainOf_32 rfl cl3 (by decide) wfl_164 sameF_rfl (fun v32 => ?_)
      refine I_iload_n 1 36 dX5_trainOf_35 rfl rfl rfl ?_
      refine I_callVa (As := [.int x1]) (rest := []) 39 (C_Jx4a65c_get_915e3 hst v32 x1) dX5_trainOf_36 rfl cl0 rfl (by decide) (Nat.le_of_ble_eq_true rfl) wcd_166 win_20 wml_167 wim_168 wse_169 ⟨by decide, by decide, pd_Jx4a65c_get_915e3⟩ (fun x hx => by cases hx) (fun v36 => ?_)
      refine I_cast 42 dX5_trainOf_39 rfl cl4 wcl_170 ?_
      exact I_aret dX5_trainOf_42 rfl (Or.inl ⟨_, rfl⟩)
    · refine I_sub [] [] rfl ?_
      exact I_X5_trainOf_b18 hst
theorem C_X5_trainOf {l : Launch} {g : GX} (hst : l.stackTraces = false) (x0 : Nat) (x1 : Int32) : Cs l g M_X5_trainOf cvA [.ref x0, .int x1] (f_X5_trainOf (gt0 g) (gmi g) x0 x1) :=
  Cs_of_I [(0, .ref x0), (1, .int x1)] rfl (by decide) hst (Nat.le_of_ble_eq_true rfl) rfl (I_X5_trainOf hst x0 x1)
/-! LunchMarks$Network.hasStation(I)Z -/
abbrev M_X2_hasStation : MS := (yX2_hasStation, cX2_hasStation, 2, (some .boolean), [], 0, 0)
theorem pd_X2_hasStation : (parseMethodDescriptor (mY M_X2_hasStation).desc).map (fun d => d.parameters.length) = some 1 := by decide +kernel
def X2_hasStation_b17 (t0 mi : Nat) (s0 : Int32) : Mo Int32 :=
    rtZ s0
set_option maxRecDepth 20000 in
theorem I_X2_hasStation_b17 {l : Launch} {g : GX} (hst : l.stackTraces = false) (s0 : Int32) : I l g M_X2_hasStation cvI 17 [] [.int s0] (X2_hasStation_b17 (gt0 g) (gmi g) s0) := by
  unfold X2_hasStation_b17
  exact I_zret dX2_hasStation_17 rfl
def X2_hasStation_b16 (t0 mi : Nat) : Mo Int32 :=
    X2_hasStation_b17 t0 mi (0 : Int32)
set_option maxRecDepth 20000 in
theorem I_X2_hasStation_b16 {l : Launch} {g : GX} (hst : l.stackTraces = false) : I l g M_X2_hasStation cvI 16 [] [] (X2_hasStation_b16 (gt0 g) (gmi g)) := by
  unfold X2_hasStation_b16
  refine I_iconst (0 : Int32) 17 dX2_hasStation_16 rfl (by decide) ?_
  refine I_sub [] [] rfl ?_
  exact I_X2_hasStation_b17 hst (0 : Int32)
def f_X2_hasStation (t0 mi : Nat) (x0 : Nat) (x1 : Int32) : Mo Int32 :=
    (if x1 < 0 then
    X2_hasStation_b16 t0 mi
    else
    bnd (gI x0 3 1) fun v6 =>
    (if v6 ≤ x1 then
    X2_hasStation_b16 t0 mi
    else
    X2_hasStation_b17 t0 mi (1 : Int32)))
set_option maxRecDepth 20000 in
theorem I_X2_hasStation {l : Launch} {g : GX} (hst : l.stackTraces = false) (x0 : Nat) (x1 : Int32) : I l g M_X2_hasStation cvI 0 [(0, .ref x0), (1, .int x1)] [] (f_X2_hasStation (gt0 g) (gmi g) x0 x1) := by
  unfold f_X2_hasStation
  refine I_iload_n 1 1 dX2_hasStation_0 rfl rfl rfl ?_
  refine I_if_lt 16 4 dX2_hasStation_1 rfl rfl (fun _ => ?_) (fun _ => ?_)
  · refine I_sub [] [] rfl ?_
    exact I_X2_hasStation_b16 hst
  · refine I_iload_n 1 5 dX2_hasStation_4 rfl rfl rfl ?_
    refine I_aload_n 0 6 dX2_hasStation_5 rfl rfl rfl ?_
    refine I_getI 9 dX2_hasStation_6 rfl cl3 (by decide) wfl_17 sameF_rfl (fun v6 => ?_)
    refine I_icmp_ge 16 12 dX2_hasStation_9 rfl rfl (fun _ => ?_) (fun _ => ?_)
    · refine I_sub [] [] rfl ?_
      exact I_X2_hasStation_b16 hst
    · refine I_iconst (1 : Int32) 13 dX2_hasStation_12 rfl (by decide) ?_
      refine I_goto 17 dX2_hasStation_13 rfl ?_
      refine I_sub [] [] rfl ?_
      exact I_X2_hasStation_b17 hst (1 : Int32)
theorem C_X2_hasStation {l : Launch} {g : GX} (hst : l.stackTraces = false) (x0 : Nat) (x1 : Int32) : Cs l g M_X2_hasStation cvI [.ref x0, .int x1] (f_X2_hasStation (gt0 g) (gmi g) x0 x1) :=
  Cs_of_I [(0, .ref x0), (1, .int x1)] rfl (by decide) hst (Nat.le_of_ble_eq_true rfl) rfl (I_X2_hasStation hst x0 x1)
/-! LunchMarks.isMinute(I)Z -/
abbrev M_X5_isMinute : MS := (yX5_isMinute, cX5_isMinute, 1, (some .boolean), [], 1, 21)
theorem pd_X5_isMinute : (parseMethodDescriptor (mY M_X5_isMinute).desc).map (fun d => d.parameters.length) = some 1 := by decide +kernel
def f_X5_isMinute (t0 mi : Nat) (x0 : Int32) : Mo Int32 :=
    bnd (f_X5_isWithin t0 mi x0 (1439 : Int32)) fun v4 =>
    rtZ v4
set_option maxRecDepth 20000 in
theorem I_X5_isMinute {l : Launch} {g : GX} (hst : l.stackTraces = false) (x0 : Int32) : I l g M_X5_isMinute cvI 0 [(0, .int x0)] [] (f_X5_isMinute (gt0 g) (gmi g) x0) := by
  unfold f_X5_isMinute
  refine I_iload_n 0 1 dX5_isMinute_0 rfl rfl rfl ?_
  refine I_sipush (1439 : Int32) 4 dX5_isMinute_1 rfl (by decide) ?_
  refine I_callSi (As := [.int x0, .int (1439 : Int32)]) (rest := []) 7 (C_X5_isWithin hst x0 (1439 : Int32)) dX5_isMinute_4 rfl rfl (by decide) (Nat.le_of_ble_eq_true rfl) wcd_80 win_81 wml_82 wst_83 ⟨by decide, by decide, pd_X5_isWithin⟩ (fun x hx => by cases hx) (fun v4 => ?_)
  exact I_zret dX5_isMinute_7 rfl
theorem C_X5_isMinute {l : Launch} {g : GX} (hst : l.stackTraces = false) (x0 : Int32) : Cs l g M_X5_isMinute cvI [.int x0] (f_X5_isMinute (gt0 g) (gmi g) x0) :=
  Cs_of_I [(0, .int x0)] rfl (by decide) hst (Nat.le_of_ble_eq_true rfl) rfl (I_X5_isMinute hst x0)
/-! LunchMarks$Train.isUsed()Z -/
abbrev M_X3_isUsed : MS := (yX3_isUsed, cX3_isUsed, 2, (some .boolean), [], 0, 0)
theorem pd_X3_isUsed : (parseMethodDescriptor (mY M_X3_isUsed).desc).map (fun d => d.parameters.length) = some 0 := by decide +kernel
def X3_isUsed_L2 (t0 mi : Nat) (x0 : Nat) (kx : Mo Int32) : Nat → Int32 → Mo Int32
  | 0, _ => flr
  | n + 1, x1 =>
    (if (10 : Int32) ≤ x1 then
    kx
    else
    bnd (gA' x0 4 3) fun v9 =>
    bnd (ldK 0 v9 x1) fun v13 =>
    (if v13 ≤ 0 then
    (X3_isUsed_L2 t0 mi x0 kx n) (x1 + 1)
    else
    rtZ (1 : Int32)))
set_option maxRecDepth 20000 in
theorem I_X3_isUsed_L2 {l : Launch} {g : GX} (hst : l.stackTraces = false) (x0 : Nat) (kx : Mo Int32) (hkx : I l g M_X3_isUsed cvI 25 [] [] kx) : ∀ (n : Nat) (x1 : Int32), I l g M_X3_isUsed cvI 2 [(0, .ref x0), (1, .int x1)] [] (X3_isUsed_L2 (gt0 g) (gmi g) x0 kx n x1) := by
  intro n
  induction n with
  | zero => intro x1; rw [X3_isUsed_L2]; exact I_flr
  | succ n ih =>
    intro x1; rw [X3_isUsed_L2]
    refine I_iload_n 1 3 dX3_isUsed_2 rfl rfl rfl ?_
    refine I_bipush (10 : Int32) 5 dX3_isUsed_3 rfl (by decide) ?_
    refine I_icmp_ge 25 8 dX3_isUsed_5 rfl rfl (fun _ => ?_) (fun _ => ?_)
    · refine I_sub [] [] rfl ?_
      exact hkx
    · refine I_aload_n 0 9 dX3_isUsed_8 rfl rfl rfl ?_
      refine I_getA 12 dX3_isUsed_9 rfl cl4 (by decide) wfl_95 sameF_rfl (fun v9 => ?_)
      refine I_iload_n 1 13 dX3_isUsed_12 rfl rfl rfl ?_
      refine I_iald 14 dX3_isUsed_13 rfl (fun v13 => ?_)
      refine I_if_le 19 17 dX3_isUsed_14 rfl rfl (fun _ => ?_) (fun _ => ?_)
      · refine I_iinc 22 (x1 + 1) [(1, .int (x1 + 1)), (0, .ref x0)] 1 dX3_isUsed_19 rfl rfl rfl (by decide) rfl ?_
        refine I_goto 2 dX3_isUsed_22 rfl ?_
        refine I_sub [(0, .ref x0), (1, .int (x1 + 1))] [1, 0] rfl ?_
        exact ih (x1 + 1)
      · refine I_iconst (1 : Int32) 18 dX3_isUsed_17 rfl (by decide) ?_
        exact I_zret dX3_isUsed_18 rfl
def f_X3_isUsed (t0 mi : Nat) (x0 : Nat) : Mo Int32 :=
    X3_isUsed_L2 t0 mi x0 (rtZ (0 : Int32)) FU (0 : Int32)
set_option maxRecDepth 20000 in
theorem I_X3_isUsed {l : Launch} {g : GX} (hst : l.stackTraces = false) (x0 : Nat) : I l g M_X3_isUsed cvI 0 [(0, .ref x0)] [] (f_X3_isUsed (gt0 g) (gmi g) x0) := by
  unfold f_X3_isUsed
  refine I_iconst (0 : Int32) 1 dX3_isUsed_0 rfl (by decide) ?_
  refine I_istore_n 2 [(1, .int (0 : Int32)), (0, .ref x0)] dX3_isUsed_1 rfl rfl (by decide) rfl ?_
  refine I_sub [(0, .ref x0), (1, .int (0 : Int32))] [1, 0] rfl ?_
  refine I_X3_isUsed_L2 hst x0 _ ?_ FU (0 : Int32)
  refine I_iconst (0 : Int32) 26 dX3_isUsed_25 rfl (by decide) ?_
  exact I_zret dX3_isUsed_26 rfl
theorem C_X3_isUsed {l : Launch} {g : GX} (hst : l.stackTraces = false) (x0 : Nat) : Cs l g M_X3_isUsed cvI [.ref x0] (f_X3_isUsed (gt0 g) (gmi g) x0) :=
  Cs_of_I [(0, .ref x0)] rfl (by decide) hst (Nat.le_of_ble_eq_true rfl) rfl (I_X3_isUsed hst x0)
/-! LunchMarks$Train.mayFollow(II)Z -/
abbrev M_X3_mayFollow : MS := (yX3_mayFollow, cX3_mayFollow, 3, (some .boolean), [], 0, 0)
theorem pd_X3_mayFollow : (parseMethodDescriptor (mY M_X3_mayFollow).desc).map (fun d => d.parameters.length) = some 2 := by decide +kernel
def X3_mayFollow_b42 (t0 mi : Nat) (s0 : Int32) : Mo Int32 :=
    rtZ s0
set_option maxRecDepth 20000 in
theorem I_X3_mayFollow_b42 {l : Launch} {g : GX} (hst : l.stackTraces = false) (s0 : Int32) : I l g M_X3_mayFollow cvI 42 [] [.int s0] (X3_mayFollow_b42 (gt0 g) (gmi g) s0) := by
  unfold X3_mayFollow_b42
  exact I_zret dX3_mayFollow_42 rfl
def X3_mayFollow_b37 (t0 mi : Nat) : Mo Int32 :=
    X3_mayFollow_b42 t0 mi (1 : Int32)
set_option maxRecDepth 20000 in
theorem I_X3_mayFollow_b37 {l : Launch} {g : GX} (hst : l.stackTraces = false) : I l g M_X3_mayFollow cvI 37 [] [] (X3_mayFollow_b37 (gt0 g) (gmi g)) := by
  unfold X3_mayFollow_b37
  refine I_iconst (1 : Int32) 38 dX3_mayFollow_37 rfl (by decide) ?_
  refine I_goto 42 dX3_mayFollow_38 rfl ?_
  refine I_sub [] [] rfl ?_
  exact I_X3_mayFollow_b42 hst (1 : Int32)
def X3_mayFollow_b41 (t0 mi : Nat) : Mo Int32 :=
    X3_mayFollow_b42 t0 mi (0 : Int32)
set_option maxRecDepth 20000 in
theorem I_X3_mayFollow_b41 {l : Launch} {g : GX} (hst : l.stackTraces = false) : I l g M_X3_mayFollow cvI 41 [] [] (X3_mayFollow_b41 (gt0 g) (gmi g)) := by
  unfold X3_mayFollow_b41
  refine I_iconst (0 : Int32) 42 dX3_mayFollow_41 rfl (by decide) ?_
  refine I_sub [] [] rfl ?_
  exact I_X3_mayFollow_b42 hst (0 : Int32)
def f_X3_mayFollow (t0 mi : Nat) (x0 : Nat) (x1 : Int32) (x2 : Int32) : Mo Int32 :=
    bnd (gI x0 4 4) fun v1 =>
    (if v1 = 0 then
    X3_mayFollow_b37 t0 mi
    else
    bnd (gA' x0 4 2) fun v8 =>
    bnd (gI x0 4 4) fun v12 =>
    bnd (ldK 0 v8 (v12 - (1 : Int32))) fun v17 =>
    (if x2 ≤ v17 then
    X3_mayFollow_b41 t0 mi
    else
    bnd (gA' x0 4 1) fun v23 =>
    bnd (gI x0 4 4) fun v27 =>
    bnd (ldK 0 v23 (v27 - (1 : Int32))) fun v32 =>
    (if v32 = x1 then
    X3_mayFollow_b41 t0 mi
    else
    X3_mayFollow_b37 t0 mi)))
set_option maxRecDepth 20000 in
theorem I_X3_mayFollow {l : Launch} {g : GX} (hst : l.stackTraces = false) (x0 : Nat) (x1 : Int32) (x2 : Int32) : I l g M_X3_mayFollow cvI 0 [(0, .ref x0), (1, .int x1), (2, .int x2)] [] (f_X3_mayFollow (gt0 g) (gmi g) x0 x1 x2) := by
  unfold f_X3_mayFollow
  refine I_aload_n 0 1 dX3_mayFollow_0 rfl rfl rfl ?_
  refine I_getI 4 dX3_mayFollow_1 rfl cl4 (by decide) wfl_96 sameF_rfl (fun v1 => ?_)
  refine I_if_eq 37 7 dX3_mayFollow_4 rfl rfl (fun _ => ?_) (fun _ => ?_)
  · refine I_sub [] [] rfl ?_
    exact I_X3_mayFollow_b37 hst
  · refine I_aload_n 0 8 dX3_mayFollow_7 rfl rfl rfl ?_
    refine I_getA 11 dX3_mayFollow_8 rfl cl4 (by decide) wfl_94 sameF_rfl (fun v8 => ?_)
    refine I_aload_n 0 12 dX3_mayFollow_11 rfl rfl rfl ?_
    refine I_getI 15 dX3_mayFollow_12 rfl cl4 (by decide) wfl_96 sameF_rfl (fun v12 => ?_)
    refine I_iconst (1 : Int32) 16 dX3_mayFollow_15 rfl (by decide) ?_
    refine I_isub 17 dX3_mayFollow_16 rfl ?_
    refine I_iald 18 dX3_mayFollow_17 rfl (fun v17 => ?_)
    refine I_iload_n 2 19 dX3_mayFollow_18 rfl rfl rfl ?_
    refine I_icmp_ge 41 22 dX3_mayFollow_19 rfl rfl (fun _ => ?_) (fun _ => ?_)
    · refine I_sub [] [] rfl ?_
      exact I_X3_mayFollow_b41 hst
    · refine I_aload_n 0 23 dX3_mayFollow_22 rfl rfl rfl ?_
      refine I_getA 26 dX3_mayFollow_23 rfl cl4 (by decide) wfl_93 sameF_rfl (fun v23 => ?_)
      refine I_aload_n 0 27 dX3_mayFollow_26 rfl rfl rfl ?_
      refine I_getI 30 dX3_mayFollow_27 rfl cl4 (by decide) wfl_96 sameF_rfl (fun v27 => ?_)
      refine I_iconst (1 : Int32) 31 dX3_mayFollow_30 rfl (by decide) ?_
      refine I_isub 32 dX3_mayFollow_31 rfl ?_
      refine I_iald 33 dX3_mayFollow_32 rfl (fun v32 => ?_)
      refine I_iload_n 1 34 dX3_mayFollow_33 rfl rfl rfl ?_
      refine I_icmp_eq 41 37 dX3_mayFollow_34 rfl rfl (fun _ => ?_) (fun _ => ?_)
      · refine I_sub [] [] rfl ?_
        exact I_X3_mayFollow_b41 hst
      · refine I_sub [] [] rfl ?_
        exact I_X3_mayFollow_b37 hst
theorem C_X3_mayFollow {l : Launch} {g : GX} (hst : l.stackTraces = false) (x0 : Nat) (x1 : Int32) (x2 : Int32) : Cs l g M_X3_mayFollow cvI [.ref x0, .int x1, .int x2] (f_X3_mayFollow (gt0 g) (gmi g) x0 x1 x2) :=
  Cs_of_I [(0, .ref x0), (1, .int x1), (2, .int x2)] rfl (by decide) hst (Nat.le_of_ble_eq_true rfl) rfl (I_X3_mayFollow hst x0 x1 x2)
/-! LunchMarks$Train.addStop(II)I -/
abbrev M_X3_addStop : MS := (yX3_addStop, cX3_addStop, 3, (some .int), [], 1, 22)
theorem pd_X3_addStop : (parseMethodDescriptor (mY M_X3_addStop).desc).map (fun d => d.parameters.length) = some 2 := by decide +kernel
def X3_addStop_b18 (t0 mi : Nat) : Mo Int32 :=
    rt (-1 : Int32)
set_option maxRecDepth 20000 in
theorem I_X3_addStop_b18 {l : Launch} {g : GX} (hst : l.stackTraces = false) : I l g M_X3_addStop cvI 18 [] [] (X3_addStop_b18 (gt0 g) (gmi g)) := by
  unfold X3_addStop_b18
  refine I_iconst (-1 : Int32) 19 dX3_addStop_18 rfl (by decide) ?_
  exact I_iret dX3_addStop_19 rfl
def f_X3_addStop (t0 mi : Nat) (x0 : Nat) (x1 : Int32) (x2 : Int32) : Mo Int32 :=
    bnd (gI x0 4 4) fun v1 =>
    (if (10 : Int32) ≤ v1 then
    X3_addStop_b18 t0 mi
    else
    bnd (vc x0 4 (f_X3_mayFollow t0 mi x0 x1 x2)) fun v12 =>
    (if v12 = 0 then
    X3_addStop_b18 t0 mi
    else
    bnd (gA' x0 4 1) fun v21 =>
    bnd (gI x0 4 4) fun v25 =>
    bnd (stK 0 v21 v25 x1) fun _ =>
    bnd (gA' x0 4 2) fun v31 =>
    bnd (gI x0 4 4) fun v35 =>
    bnd (stK 0 v31 v35 x2) fun _ =>
    bnd (gI x0 4 4) fun v42 =>
    bnd (pV x0 4 4 (.int (v42 + (1 : Int32)))) fun _ =>
    bnd (gI x0 4 4) fun v51 =>
    rt (v51 - (1 : Int32))))
set_option maxRecDepth 20000 in
theorem I_X3_addStop {l : Launch} {g : GX} (hst : l.stackTraces = false) (x0 : Nat) (x1 : Int32) (x2 : Int32) : I l g M_X3_addStop cvI 0 [(0, .ref x0), (1, .int x1), (2, .int x2)] [] (f_X3_addStop (gt0 g) (gmi g) x0 x1 x2) := by
  unfold f_X3_addStop
  refine I_aload_n 0 1 dX3_addStop_0 rfl rfl rfl ?_
  refine I_getI 4 dX3_addStop_1 rfl cl4 (by decide) wfl_96 sameF_rfl (fun v1 => ?_)
  refine I_bipush (10 : Int32) 6 dX3_addStop_4 rfl (by decide) ?_
  refine I_icmp_ge 18 9 dX3_addStop_6 rfl rfl (fun _ => ?_) (fun _ => ?_)
  · refine I_sub [] [] rfl ?_
    exact I_X3_addStop_b18 hst
  · refine I_aload_n 0 10 dX3_addStop_9 rfl rfl rfl ?_
    refine I_iload_n 1 11 dX3_addStop_10 rfl rfl rfl ?_
    refine I_iload_n 2 12 dX3_addStop_11 rfl rfl rfl ?_
    refine I_callVi (As := [.int x1, .int x2]) (rest := []) 15 (C_X3_mayFollow hst x0 x1 x2) dX3_addStop_12 rfl cl4 rfl (by decide) (Nat.le_of_ble_eq_true rfl) wcd_171 win_137 wml_172 wim_173 wse_174 ⟨by decide, by decide, pd_X3_mayFollow⟩ (fun x hx => by cases hx) (fun v12 => ?_)
    refine I_if_ne 20 18 dX3_addStop_15 rfl rfl (fun _ => ?_) (fun _ => ?_)
    · refine I_sub [] [] rfl ?_
      exact I_X3_addStop_b18 hst
    · refine I_aload_n 0 21 dX3_addStop_20 rfl rfl rfl ?_
      refine I_getA 24 dX3_addStop_21 rfl cl4 (by decide) wfl_93 sameF_rfl (fun v21 => ?_)
      refine I_aload_n 0 25 dX3_addStop_24 rfl rfl rfl ?_
      refine I_getI 28 dX3_addStop_25 rfl cl4 (by decide) wfl_96 sameF_rfl (fun v25 => ?_)
      refine I_iload_n 1 29 dX3_addStop_28 rfl rfl rfl ?_
      refine I_iast 30 dX3_addStop_29 rfl ?_
      refine I_aload_n 0 31 dX3_addStop_30 rfl rfl rfl ?_
      refine I_getA 34 dX3_addStop_31 rfl cl4 (by decide) wfl_94 sameF_rfl (fun v31 => ?_)
      refine I_aload_n 0 35 dX3_addStop_34 rfl rfl rfl ?_
      refine I_getI 38 dX3_addStop_35 rfl cl4 (by decide) wfl_96 sameF_rfl (fun v35 => ?_)
      refine I_iload_n 2 39 dX3_addStop_38 rfl rfl rfl ?_
      refine I_iast 40 dX3_addStop_39 rfl ?_
      refine I_aload_n 0 41 dX3_addStop_40 rfl rfl rfl ?_
      refine I_dup 42 dX3_addStop_41 rfl rfl ?_
      refine I_getI 45 dX3_addStop_42 rfl cl4 (by decide) wfl_96 sameF_rfl (fun v42 => ?_)
      refine I_iconst (1 : Int32) 46 dX3_addStop_45 rfl (by decide) ?_
      refine I_iadd 47 dX3_addStop_46 rfl ?_
      refine I_put 50 dX3_addStop_47 rfl cl4 (by decide) wfl_96 sameF_rfl rfl rfl rfl ?_
      refine I_aload_n 0 51 dX3_addStop_50 rfl rfl rfl ?_
      refine I_getI 54 dX3_addStop_51 rfl cl4 (by decide) wfl_96 sameF_rfl (fun v51 => ?_)
      refine I_iconst (1 : Int32) 55 dX3_addStop_54 rfl (by decide) ?_
      refine I_isub 56 dX3_addStop_55 rfl ?_
      exact I_iret dX3_addStop_56 rfl
theorem C_X3_addStop {l : Launch} {g : GX} (hst : l.stackTraces = false) (x0 : Nat) (x1 : Int32) (x2 : Int32) : Cs l g M_X3_addStop cvI [.ref x0, .int x1, .int x2] (f_X3_addStop (gt0 g) (gmi g) x0 x1 x2) :=
  Cs_of_I [(0, .ref x0), (1, .int x1), (2, .int x2)] rfl (by decide) hst (Nat.le_of_ble_eq_true rfl) rfl (I_X3_addStop hst x0 x1 x2)
/-! LunchMarks.stop(III)I -/
abbrev M_X5_stop : MS := (yX5_stop, cX5_stop, 5, (some .int), [], 7, 103)
theorem pd_X5_stop : (parseMethodDescriptor (mY M_X5_stop).desc).map (fun d => d.parameters.length) = some 3 := by decide +kernel
def X5_stop_b33 (t0 mi : Nat) : Mo Int32 :=
    rt (-1 : Int32)
set_option maxRecDepth 20000 in
theorem I_X5_stop_b33 {l : Launch} {g : GX} (hst : l.stackTraces = false) : I l g M_X5_stop cvI 33 [] [] (X5_stop_b33 (gt0 g) (gmi g)) := by
  unfold X5_stop_b33
  refine I_iconst (-1 : Int32) 34 dX5_stop_33 rfl (by decide) ?_
  exact I_iret dX5_stop_34 rfl
def f_X5_stop (t0 mi : Nat) (x0 : Nat) (x1 : Int32) (x2 : Int32) (x3 : Int32) : Mo Int32 :=
    bnd (vc x0 6 (f_X5_trainOf t0 mi x0 x1)) fun v2 =>
    bnd (gA' x0 6 0) fun v8 =>
    bnd (vc v8 3 (f_X2_hasStation t0 mi v8 x2)) fun v12 =>
    (if v12 = 0 then
    X5_stop_b33 t0 mi
    else
    bnd (f_X5_isMinute t0 mi x3) fun v19 =>
    (if v19 = 0 then
    X5_stop_b33 t0 mi
    else
    bnd (vc v2 4 (f_X3_isUsed t0 mi v2)) fun v27 =>
    (if v27 = 0 then
    bnd (vc v2 4 (f_X3_addStop t0 mi v2 x2 x3)) fun v39 =>
    rt v39
    else
    X5_stop_b33 t0 mi)))
set_option maxRecDepth 20000 in
theorem I_X5_stop {l : Launch} {g : GX} (hst : l.stackTraces = false) (x0 : Nat) (x1 : Int32) (x2 : Int32) (x3 : Int32) : I l g M_X5_stop cvI 0 [(0, .ref x0), (1, .int x1), (2, .int x2), (3, .int x3)] [] (f_X5_stop (gt0 g) (gmi g) x0 x1 x2 x3) := by
  unfold f_X5_stop
  refine I_aload_n 0 1 dX5_stop_0 rfl rfl rfl ?_
  refine I_iload_n 1 2 dX5_stop_1 rfl rfl rfl ?_
  refine I_callVa (As := [.int x1]) (rest := []) 5 (C_X5_trainOf hst x0 x1) dX5_stop_2 rfl cl6 rfl (by decide) (Nat.le_of_ble_eq_true rfl) wcd_175 win_81 wml_176 wim_177 wse_178 ⟨by decide, by decide, pd_X5_trainOf⟩ (fun x hx => by cases hx) (fun v2 => ?_)
  refine I_astore 7 [(4, .ref v2), (0, .ref x0), (1, .int x1), (2, .int x2), (3, .int x3)] dX5_stop_5 rfl (by decide) rfl ?_
  refine I_aload_n 1 8 dX5_stop_7 rfl rfl rfl ?_
  refine I_getA 11 dX5_stop_8 rfl cl6 (by decide) wfl_38 sameF_rfl (fun v8 => ?_)
  refine I_iload_n 3 12 dX5_stop_11 rfl rfl rfl ?_
  refine I_callVi (As := [.int x2]) (rest := []) 15 (C_X2_hasStation hst v8 x2) dX5_stop_12 rfl cl3 rfl (by decide) (Nat.le_of_ble_eq_true rfl) wcd_179 win_34 wml_180 wim_181 wse_182 ⟨by decide, by decide, pd_X2_hasStation⟩ (fun x hx => by cases hx) (fun v12 => ?_)
  refine I_if_eq 33 18 dX5_stop_15 rfl rfl (fun _ => ?_) (fun _ => ?_)
  · refine I_sub [] [] rfl ?_
    exact I_X5_stop_b33 hst
  · refine I_iload_n 4 19 dX5_stop_18 rfl rfl rfl ?_
    refine I_callSi (As := [.int x3]) (rest := []) 22 (C_X5_isMinute hst x3) dX5_stop_19 rfl rfl (by decide) (Nat.le_of_ble_eq_true rfl) wcd_183 win_81 wml_184 wst_185 ⟨by decide, by decide, pd_X5_isMinute⟩ (fun x hx => by cases hx) (fun v19 => ?_)
    refine I_if_eq 33 25 dX5_stop_22 rfl rfl (fun _ => ?_) (fun _ => ?_)
    · refine I_sub [] [] rfl ?_
      exact I_X5_stop_b33 hst
    · refine I_aload 0 27 dX5_stop_25 rfl rfl ?_
      refine I_callVi (As := []) (rest := []) 30 (C_X3_isUsed hst v2) dX5_stop_27 rfl cl4 rfl (by decide) (Nat.le_of_ble_eq_true rfl) wcd_186 win_137 wml_187 wim_188 wse_189 ⟨by decide, by decide, pd_X3_isUsed⟩ (fun x hx => by cases hx) (fun v27 => ?_)
      refine I_if_eq 35 33 dX5_stop_30 rfl rfl (fun _ => ?_) (fun _ => ?_)
      · refine I_aload 0 37 dX5_stop_35 rfl rfl ?_
        refine I_iload_n 3 38 dX5_stop_37 rfl rfl rfl ?_
        refine I_iload_n 4 39 dX5_stop_38 rfl rfl rfl ?_
        refine I_callVi (As := [.int x2, .int x3]) (rest := []) 42 (C_X3_addStop hst v2 x2 x3) dX5_stop_39 rfl cl4 rfl (by decide) (Nat.le_of_ble_eq_true rfl) wcd_190 win_137 wml_191 wim_192 wse_193 ⟨by decide, by decide, pd_X3_addStop⟩ (fun x hx => by cases hx) (fun v39 => ?_)
        exact I_iret dX5_stop_42 rfl
      · refine I_sub [] [] rfl ?_
        exact I_X5_stop_b33 hst
theorem C_X5_stop {l : Launch} {g : GX} (hst : l.stackTraces = false) (x0 : Nat) (x1 : Int32) (x2 : Int32) (x3 : Int32) : Cs l g M_X5_stop cvI [.ref x0, .int x1, .int x2, .int x3] (f_X5_stop (gt0 g) (gmi g) x0 x1 x2 x3) :=
  Cs_of_I [(0, .ref x0), (1, .int x1), (2, .int x2), (3, .int x3)] rfl (by decide) hst (Nat.le_of_ble_eq_true rfl) rfl (I_X5_stop hst x0 x1 x2 x3)
/-! LunchMarksLaw.stop(LLunchMarks;III[J)I -/
abbrev M_L_stop : MS := (yL_stop, cL_stop, 6, (some .int), tableOf [(0, 12, 15, 13)], 8, 127)
theorem pd_L_stop : (parseMethodDescriptor (mY M_L_stop).desc).map (fun d => d.parameters.length) = some 5 := by decide +kernel
def f_L_stop (t0 mi : Nat) (x0 : Nat) (x1 : Int32) (x2 : Int32) (x3 : Int32) (x4 : Nat) : Mo Int32 :=
    ctc (vc x0 6 (f_X5_stop t0 mi x0 x1 x2 x3)) (fun v7 =>
    bnd (stL x4 (0 : Int32) v7.toInt64) fun _ =>
    rt (0 : Int32)) (fun E =>
    (if E = "java/util/NoSuchElementException" then
    rt (1 : Int32)
    else
    flr))
set_option maxRecDepth 20000 in
theorem I_L_stop {l : Launch} {g : GX} (hst : l.stackTraces = false) (x0 : Nat) (x1 : Int32) (x2 : Int32) (x3 : Int32) (x4 : Nat) : I l g M_L_stop cvI 0 [(0, .ref x0), (1, .int x1), (2, .int x2), (3, .int x3), (4, .ref x4)] [] (f_L_stop (gt0 g) (gmi g) x0 x1 x2 x3 x4) := by
  unfold f_L_stop
  refine I_aload 4 2 dL_stop_0 rfl rfl ?_
  refine I_iconst (0 : Int32) 3 dL_stop_2 rfl (by decide) ?_
  refine I_aload_n 0 4 dL_stop_3 rfl rfl rfl ?_
  refine I_iload_n 1 5 dL_stop_4 rfl rfl rfl ?_
  refine I_iload_n 2 6 dL_stop_5 rfl rfl rfl ?_
  refine I_iload_n 3 7 dL_stop_6 rfl rfl rfl ?_
  refine I_callVc1 (As := [.int x1, .int x2, .int x3]) (rest := [.int (0 : Int32), .ref x4]) 10 (C_X5_stop hst x0 x1 x2 x3) dL_stop_7 rfl cl6 rfl (by decide) (Nat.le_of_ble_eq_true rfl) wcd_194 win_81 wml_195 wim_196 wse_197 ⟨by decide, by decide, pd_X5_stop⟩ rfl (by decide) (by decide) wcl_198 xc_N (fun v7 => ?_) (fun q15 => ?_)
  · refine I_i2l 11 dL_stop_10 rfl ?_
    refine I_last 12 dL_stop_11 rfl ?_
    refine I_goto 19 dL_stop_12 rfl ?_
    refine I_iconst (0 : Int32) 20 dL_stop_19 rfl (by decide) ?_
    exact I_iret dL_stop_20 rfl
  · refine I_astore 17 [(5, .ref q15), (0, .ref x0), (1, .int x1), (2, .int x2), (3, .int x3), (4, .ref x4)] dL_stop_15 rfl (by decide) rfl ?_
    refine I_iconst (1 : Int32) 18 dL_stop_17 rfl (by decide) ?_
    exact I_iret dL_stop_18 rfl
theorem C_L_stop {l : Launch} {g : GX} (hst : l.stackTraces = false) (x0 : Nat) (x1 : Int32) (x2 : Int32) (x3 : Int32) (x4 : Nat) : CsW l g M_L_stop [(0, 12, 15, 13)] cvI [.ref x0, .int x1, .int x2, .int x3, .ref x4] (f_L_stop (gt0 g) (gmi g) x0 x1 x2 x3 x4) :=
  CsW_of_I [(0, .ref x0), (1, .int x1), (2, .int x2), (3, .int x3), (4, .ref x4)] rfl (by decide) hst (Nat.le_of_ble_eq_true rfl) rfl (I_L_stop hst x0 x1 x2 x3 x4)
/-! LunchMarksModel.isTrain(I)Z -/
abbrev M_X6_isTrain : MS := (yX6_isTrain, cX6_isTrain, 2, (some .boolean), [], 0, 0)
theorem pd_X6_isTrain : (parseMethodDescriptor (mY M_X6_isTrain).desc).map (fun d => d.parameters.length) = some 1 := by decide +kernel
def X6_isTrain_b17 (t0 mi : Nat) (s0 : Int32) : Mo Int32 :=
    rtZ s0
set_option maxRecDepth 20000 in
theorem I_X6_isTrain_b17 {l : Launch} {g : GX} (hst : l.stackTraces = false) (s0 : Int32) : I l g M_X6_isTrain cvI 17 [] [.int s0] (X6_isTrain_b17 (gt0 g) (gmi g) s0) := by
  unfold X6_isTrain_b17
  exact I_zret dX6_isTrain_17 rfl
def X6_isTrain_b16 (t0 mi : Nat) : Mo Int32 :=
    X6_isTrain_b17 t0 mi (0 : Int32)
set_option maxRecDepth 20000 in
theorem I_X6_isTrain_b16 {l : Launch} {g : GX} (hst : l.stackTraces = false) : I l g M_X6_isTrain cvI 16 [] [] (X6_isTrain_b16 (gt0 g) (gmi g)) := by
  unfold X6_isTrain_b16
  refine I_iconst (0 : Int32) 17 dX6_isTrain_16 rfl (by decide) ?_
  refine I_sub [] [] rfl ?_
  exact I_X6_isTrain_b17 hst (0 : Int32)
def f_X6_isTrain (t0 mi : Nat) (x0 : Nat) (x1 : Int32) : Mo Int32 :=
    (if x1 < 0 then
    X6_isTrain_b16 t0 mi
    else
    bnd (gI x0 7 3) fun v6 =>
    (if v6 ≤ x1 then
    X6_isTrain_b16 t0 mi
    else
    X6_isTrain_b17 t0 mi (1 : Int32)))
set_option maxRecDepth 20000 in
theorem I_X6_isTrain {l : Launch} {g : GX} (hst : l.stackTraces = false) (x0 : Nat) (x1 : Int32) : I l g M_X6_isTrain cvI 0 [(0, .ref x0), (1, .int x1)] [] (f_X6_isTrain (gt0 g) (gmi g) x0 x1) := by
  unfold f_X6_isTrain
  refine I_iload_n 1 1 dX6_isTrain_0 rfl rfl rfl ?_
  refine I_if_lt 16 4 dX6_isTrain_1 rfl rfl (fun _ => ?_) (fun _ => ?_)
  · refine I_sub [] [] rfl ?_
    exact I_X6_isTrain_b16 hst
  · refine I_iload_n 1 5 dX6_isTrain_4 rfl rfl rfl ?_
    refine I_aload_n 0 6 dX6_isTrain_5 rfl rfl rfl ?_
    refine I_getI 9 dX6_isTrain_6 rfl cl7 (by decide) wfl_149 sameF_rfl (fun v6 => ?_)
    refine I_icmp_ge 16 12 dX6_isTrain_9 rfl rfl (fun _ => ?_) (fun _ => ?_)
    · refine I_sub [] [] rfl ?_
      exact I_X6_isTrain_b16 hst
    · refine I_iconst (1 : Int32) 13 dX6_isTrain_12 rfl (by decide) ?_
      refine I_goto 17 dX6_isTrain_13 rfl ?_
      refine I_sub [] [] rfl ?_
      exact I_X6_isTrain_b17 hst (1 : Int32)
theorem C_X6_isTrain {l : Launch} {g : GX} (hst : l.stackTraces = false) (x0 : Nat) (x1 : Int32) : Cs l g M_X6_isTrain cvI [.ref x0, .int x1] (f_X6_isTrain (gt0 g) (gmi g) x0 x1) :=
  Cs_of_I [(0, .ref x0), (1, .int x1)] rfl (by decide) hst (Nat.le_of_ble_eq_true rfl) rfl (I_X6_isTrain hst x0 x1)
/-! LunchMarksModel.fail()I -/
abbrev M_X6_fail : MS := (yX6_fail, cX6_fail, 1, (some .int), [], 0, 0)
theorem pd_X6_fail : (parseMethodDescriptor (mY M_X6_fail).desc).map (fun d => d.parameters.length) = some 0 := by decide +kernel
def f_X6_fail (t0 mi : Nat) (x0 : Nat) : Mo Int32 :=
    bnd (pV x0 7 0 (.int (1 : Int32))) fun _ =>
    rt (0 : Int32)
set_option maxRecDepth 20000 in
theorem I_X6_fail {l : Launch} {g : GX} (hst : l.stackTraces = false) (x0 : Nat) : I l g M_X6_fail cvI 0 [(0, .ref x0)] [] (f_X6_fail (gt0 g) (gmi g) x0) := by
  unfold f_X6_fail
  refine I_aload_n 0 1 dX6_fail_0 rfl rfl rfl ?_
  refine I_iconst (1 : Int32) 2 dX6_fail_1 rfl (by decide) ?_
  refine I_put 5 dX6_fail_2 rfl cl7 (by decide) wfl_88 sameF_rfl rfl rfl rfl ?_
  refine I_iconst (0 : Int32) 6 dX6_fail_5 rfl (by decide) ?_
  exact I_iret dX6_fail_6 rfl
theorem C_X6_fail {l : Launch} {g : GX} (hst : l.stackTraces = false) (x0 : Nat) : Cs l g M_X6_fail cvI [.ref x0] (f_X6_fail (gt0 g) (gmi g) x0) :=
  Cs_of_I [(0, .ref x0)] rfl (by decide) hst (Nat.le_of_ble_eq_true rfl) rfl (I_X6_fail hst x0)
