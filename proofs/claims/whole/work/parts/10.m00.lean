/-! java/util/AbstractCollection.<init>()V -/
abbrev M_Jxa1e45_init_da8c8 : MS := (yJxa1e45_init_da8c8, cJxa1e45_init_da8c8, 1, none, [], 1, 12)
theorem pd_Jxa1e45_init_da8c8 : (parseMethodDescriptor (mY M_Jxa1e45_init_da8c8).desc).map (fun d => d.parameters.length) = some 0 := by decide +kernel
def f_Jxa1e45_init_da8c8 (t0 mi : Nat) (x0 : Nat) : Mo Unit :=
    rt ()
set_option maxRecDepth 20000 in
theorem I_Jxa1e45_init_da8c8 {l : Launch} {g : GX} (hst : l.stackTraces = false) (x0 : Nat) : I l g M_Jxa1e45_init_da8c8 cvU 0 [(0, .ref x0)] [] (f_Jxa1e45_init_da8c8 (gt0 g) (gmi g) x0) := by
  unfold f_Jxa1e45_init_da8c8
  refine I_aload_n 0 1 dJxa1e45_init_da8c8_0 rfl rfl rfl ?_
  refine I_objInit 4 dJxa1e45_init_da8c8_1 rfl wml_0 wim_1 wcd_2 (by decide) (Nat.le_of_ble_eq_true rfl) ?_
  exact I_vret dJxa1e45_init_da8c8_4 rfl
theorem C_Jxa1e45_init_da8c8 {l : Launch} {g : GX} (hst : l.stackTraces = false) (x0 : Nat) : Cs l g M_Jxa1e45_init_da8c8 cvU [.ref x0] (f_Jxa1e45_init_da8c8 (gt0 g) (gmi g) x0) :=
  Cs_of_I [(0, .ref x0)] rfl (by decide) hst (Nat.le_of_ble_eq_true rfl) rfl (I_Jxa1e45_init_da8c8 hst x0)
theorem noT_Jxa1e45_init_da8c8 (t0 mi : Nat) (x0 : Nat) : noT (f_Jxa1e45_init_da8c8 t0 mi x0) := by
  unfold f_Jxa1e45_init_da8c8
  repeat (first | exact noT_rt | exact noT_flr | (refine noT_bnd ?_ (fun _ => ?_)) | exact noT_pV | exact noT_pZ | exact noT_newO | exact noT_newK | exact noT_newM | exact noT_gA | exact noT_gI | exact noT_init)
/-! java/util/AbstractList.<init>()V -/
abbrev M_Jxc12de_init_da8c8 : MS := (yJxc12de_init_da8c8, cJxc12de_init_da8c8, 1, none, [], 2, 32)
theorem pd_Jxc12de_init_da8c8 : (parseMethodDescriptor (mY M_Jxc12de_init_da8c8).desc).map (fun d => d.parameters.length) = some 0 := by decide +kernel
def f_Jxc12de_init_da8c8 (t0 mi : Nat) (x0 : Nat) : Mo Unit :=
    bnd (f_Jxa1e45_init_da8c8 t0 mi x0) fun _ =>
    bnd (pV x0 0 0 (.int (0 : Int32))) fun _ =>
    rt ()
set_option maxRecDepth 20000 in
theorem I_Jxc12de_init_da8c8 {l : Launch} {g : GX} (hst : l.stackTraces = false) (x0 : Nat) : I l g M_Jxc12de_init_da8c8 cvU 0 [(0, .ref x0)] [] (f_Jxc12de_init_da8c8 (gt0 g) (gmi g) x0) := by
  unfold f_Jxc12de_init_da8c8
  refine I_aload_n 0 1 dJxc12de_init_da8c8_0 rfl rfl rfl ?_
  refine I_init (As := []) (rest := []) 4 (C_Jxa1e45_init_da8c8 hst x0) (noT_Jxa1e45_init_da8c8 _ _ _) dJxc12de_init_da8c8_1 rfl rfl rfl (by decide) (Nat.le_of_ble_eq_true rfl) wcd_3 win_4 wml_5 wim_6 rfl ⟨by decide, by decide, pd_Jxa1e45_init_da8c8⟩ ?_
  refine I_aload_n 0 5 dJxc12de_init_da8c8_4 rfl rfl rfl ?_
  refine I_iconst (0 : Int32) 6 dJxc12de_init_da8c8_5 rfl (by decide) ?_
  refine I_put 9 dJxc12de_init_da8c8_6 rfl cl0 (by decide) wfl_7 sameF_rfl rfl rfl rfl ?_
  exact I_vret dJxc12de_init_da8c8_9 rfl
theorem C_Jxc12de_init_da8c8 {l : Launch} {g : GX} (hst : l.stackTraces = false) (x0 : Nat) : Cs l g M_Jxc12de_init_da8c8 cvU [.ref x0] (f_Jxc12de_init_da8c8 (gt0 g) (gmi g) x0) :=
  Cs_of_I [(0, .ref x0)] rfl (by decide) hst (Nat.le_of_ble_eq_true rfl) rfl (I_Jxc12de_init_da8c8 hst x0)
theorem noT_Jxc12de_init_da8c8 (t0 mi : Nat) (x0 : Nat) : noT (f_Jxc12de_init_da8c8 t0 mi x0) := by
  unfold f_Jxc12de_init_da8c8
  repeat (first | exact noT_rt | exact noT_flr | (refine noT_bnd ?_ (fun _ => ?_)) | exact noT_pV | exact noT_pZ | exact noT_newO | exact noT_newK | exact noT_newM | exact noT_gA | exact noT_gI | exact noT_init)
/-! java/util/ArrayList.<init>()V -/
abbrev M_Jx4a65c_init_da8c8 : MS := (yJx4a65c_init_da8c8, cJx4a65c_init_da8c8, 1, none, [], 3, 52)
theorem pd_Jx4a65c_init_da8c8 : (parseMethodDescriptor (mY M_Jx4a65c_init_da8c8).desc).map (fun d => d.parameters.length) = some 0 := by decide +kernel
def f_Jx4a65c_init_da8c8 (t0 mi : Nat) (x0 : Nat) : Mo Unit :=
    bnd (f_Jxc12de_init_da8c8 t0 mi x0) fun _ =>
    bnd (pV x0 0 1 (.ref t0)) fun _ =>
    rt ()
set_option maxRecDepth 20000 in
theorem I_Jx4a65c_init_da8c8 {l : Launch} {g : GX} (hst : l.stackTraces = false) (x0 : Nat) : I l g M_Jx4a65c_init_da8c8 cvU 0 [(0, .ref x0)] [] (f_Jx4a65c_init_da8c8 (gt0 g) (gmi g) x0) := by
  unfold f_Jx4a65c_init_da8c8
  refine I_aload_n 0 1 dJx4a65c_init_da8c8_0 rfl rfl rfl ?_
  refine I_init (As := []) (rest := []) 4 (C_Jxc12de_init_da8c8 hst x0) (noT_Jxc12de_init_da8c8 _ _ _) dJx4a65c_init_da8c8_1 rfl rfl rfl (by decide) (Nat.le_of_ble_eq_true rfl) wcd_8 win_9 wml_10 wim_11 rfl ⟨by decide, by decide, pd_Jxc12de_init_da8c8⟩ ?_
  refine I_aload_n 0 5 dJx4a65c_init_da8c8_4 rfl rfl rfl ?_
  refine I_gets 8 dJx4a65c_init_da8c8_5 rfl wfl_12 ?_
  refine I_put 11 dJx4a65c_init_da8c8_8 rfl cl0 (by decide) wfl_13 sameF_rfl rfl rfl rfl ?_
  exact I_vret dJx4a65c_init_da8c8_11 rfl
theorem C_Jx4a65c_init_da8c8 {l : Launch} {g : GX} (hst : l.stackTraces = false) (x0 : Nat) : Cs l g M_Jx4a65c_init_da8c8 cvU [.ref x0] (f_Jx4a65c_init_da8c8 (gt0 g) (gmi g) x0) :=
  Cs_of_I [(0, .ref x0)] rfl (by decide) hst (Nat.le_of_ble_eq_true rfl) rfl (I_Jx4a65c_init_da8c8 hst x0)
theorem noT_Jx4a65c_init_da8c8 (t0 mi : Nat) (x0 : Nat) : noT (f_Jx4a65c_init_da8c8 t0 mi x0) := by
  unfold f_Jx4a65c_init_da8c8
  repeat (first | exact noT_rt | exact noT_flr | (refine noT_bnd ?_ (fun _ => ?_)) | exact noT_pV | exact noT_pZ | exact noT_newO | exact noT_newK | exact noT_newM | exact noT_gA | exact noT_gI | exact noT_init)
/-! LunchMarks$Network.<init>()V -/
abbrev M_X2_init : MS := (yX2_init, cX2_init, 1, none, [], 4, 72)
theorem pd_X2_init : (parseMethodDescriptor (mY M_X2_init).desc).map (fun d => d.parameters.length) = some 0 := by decide +kernel
def f_X2_init (t0 mi : Nat) (x0 : Nat) : Mo Unit :=
    bnd (newK 0 (.inl fun _ => 0) (10 : Int32)) fun v7 =>
    bnd (pV x0 3 0 (.ref v7)) fun _ =>
    bnd (pV x0 3 1 (.int (0 : Int32))) fun _ =>
    bnd (newO 0 3 [.int 0, .null, .int 0]) fun v18 =>
    bnd (f_Jx4a65c_init_da8c8 t0 mi v18) fun _ =>
    bnd (pV x0 3 2 (.ref v18)) fun _ =>
    bnd (newM (4 : Int32) (10 : Int32)) fun v32 =>
    bnd (pV x0 3 3 (.ref v32)) fun _ =>
    bnd (newM (3 : Int32) (10 : Int32)) fun v43 =>
    bnd (pV x0 3 4 (.ref v43)) fun _ =>
    rt ()
set_option maxRecDepth 20000 in
theorem I_X2_init {l : Launch} {g : GX} (hst : l.stackTraces = false) (x0 : Nat) : I l g M_X2_init cvU 0 [(0, .ref x0)] [] (f_X2_init (gt0 g) (gmi g) x0) := by
  unfold f_X2_init
  refine I_aload_n 0 1 dX2_init_0 rfl rfl rfl ?_
  refine I_objInit 4 dX2_init_1 rfl wml_14 wim_1 wcd_2 (by decide) (Nat.le_of_ble_eq_true rfl) ?_
  refine I_aload_n 0 5 dX2_init_4 rfl rfl rfl ?_
  refine I_bipush (10 : Int32) 7 dX2_init_5 rfl (by decide) ?_
  refine I_newi 9 dX2_init_7 rfl wac_15 (fun v7 => ?_)
  refine I_putF 12 dX2_init_9 rfl cl3 (by decide) wfl_16 sameF_rfl rfl rfl rfl rfl rfl ?_
  refine I_aload_n 0 13 dX2_init_12 rfl rfl rfl ?_
  refine I_iconst (0 : Int32) 14 dX2_init_13 rfl (by decide) ?_
  refine I_put 17 dX2_init_14 rfl cl3 (by decide) wfl_17 sameF_rfl rfl rfl rfl ?_
  refine I_aload_n 0 18 dX2_init_17 rfl rfl rfl ?_
  refine I_new 21 dX2_init_18 rfl cl0 wcl_18 wit_19 win_20 df0 (fun v18 => ?_)
  refine I_dup 22 dX2_init_21 rfl rfl ?_
  refine I_init (As := []) (rest := [.ref v18, .ref x0]) 25 (C_Jx4a65c_init_da8c8 hst v18) (noT_Jx4a65c_init_da8c8 _ _ _) dX2_init_22 rfl rfl rfl (by decide) (Nat.le_of_ble_eq_true rfl) wcd_21 win_20 wml_22 wim_23 rfl ⟨by decide, by decide, pd_Jx4a65c_init_da8c8⟩ ?_
  refine I_putF 28 dX2_init_25 rfl cl3 (by decide) wfl_24 sameF_rfl rfl rfl rfl rfl rfl ?_
  refine I_aload_n 0 29 dX2_init_28 rfl rfl rfl ?_
  refine I_iconst (4 : Int32) 30 dX2_init_29 rfl (by decide) ?_
  refine I_bipush (10 : Int32) 32 dX2_init_30 rfl (by decide) ?_
  refine I_newM 36 dX2_init_32 rfl wcl_25 wac_15 (fun v32 => ?_)
  refine I_putF 39 dX2_init_36 rfl cl3 (by decide) wfl_26 sameF_rfl rfl rfl rfl rfl rfl ?_
  refine I_aload_n 0 40 dX2_init_39 rfl rfl rfl ?_
  refine I_iconst (3 : Int32) 41 dX2_init_40 rfl (by decide) ?_
  refine I_bipush (10 : Int32) 43 dX2_init_41 rfl (by decide) ?_
  refine I_newM 47 dX2_init_43 rfl wcl_25 wac_15 (fun v43 => ?_)
  refine I_putF 50 dX2_init_47 rfl cl3 (by decide) wfl_27 sameF_rfl rfl rfl rfl rfl rfl ?_
  exact I_vret dX2_init_50 rfl
theorem C_X2_init {l : Launch} {g : GX} (hst : l.stackTraces = false) (x0 : Nat) : Cs l g M_X2_init cvU [.ref x0] (f_X2_init (gt0 g) (gmi g) x0) :=
  Cs_of_I [(0, .ref x0)] rfl (by decide) hst (Nat.le_of_ble_eq_true rfl) rfl (I_X2_init hst x0)
theorem noT_X2_init (t0 mi : Nat) (x0 : Nat) : noT (f_X2_init t0 mi x0) := by
  unfold f_X2_init
  repeat (first | exact noT_rt | exact noT_flr | (refine noT_bnd ?_ (fun _ => ?_)) | exact noT_pV | exact noT_pZ | exact noT_newO | exact noT_newK | exact noT_newM | exact noT_gA | exact noT_gI | exact noT_init)
/-! LunchMarks$Gang.<init>()V -/
abbrev M_X1_init : MS := (yX1_init, cX1_init, 1, none, [], 1, 12)
theorem pd_X1_init : (parseMethodDescriptor (mY M_X1_init).desc).map (fun d => d.parameters.length) = some 0 := by decide +kernel
def f_X1_init (t0 mi : Nat) (x0 : Nat) : Mo Unit :=
    bnd (newK 0 (.inl fun _ => 0) (40 : Int32)) fun v7 =>
    bnd (pV x0 2 0 (.ref v7)) fun _ =>
    bnd (pV x0 2 1 (.int (0 : Int32))) fun _ =>
    rt ()
set_option maxRecDepth 20000 in
theorem I_X1_init {l : Launch} {g : GX} (hst : l.stackTraces = false) (x0 : Nat) : I l g M_X1_init cvU 0 [(0, .ref x0)] [] (f_X1_init (gt0 g) (gmi g) x0) := by
  unfold f_X1_init
  refine I_aload_n 0 1 dX1_init_0 rfl rfl rfl ?_
  refine I_objInit 4 dX1_init_1 rfl wml_28 wim_1 wcd_2 (by decide) (Nat.le_of_ble_eq_true rfl) ?_
  refine I_aload_n 0 5 dX1_init_4 rfl rfl rfl ?_
  refine I_bipush (40 : Int32) 7 dX1_init_5 rfl (by decide) ?_
  refine I_newi 9 dX1_init_7 rfl wac_15 (fun v7 => ?_)
  refine I_putF 12 dX1_init_9 rfl cl2 (by decide) wfl_29 sameF_rfl rfl rfl rfl rfl rfl ?_
  refine I_aload_n 0 13 dX1_init_12 rfl rfl rfl ?_
  refine I_iconst (0 : Int32) 14 dX1_init_13 rfl (by decide) ?_
  refine I_put 17 dX1_init_14 rfl cl2 (by decide) wfl_30 sameF_rfl rfl rfl rfl ?_
  exact I_vret dX1_init_17 rfl
theorem C_X1_init {l : Launch} {g : GX} (hst : l.stackTraces = false) (x0 : Nat) : Cs l g M_X1_init cvU [.ref x0] (f_X1_init (gt0 g) (gmi g) x0) :=
  Cs_of_I [(0, .ref x0)] rfl (by decide) hst (Nat.le_of_ble_eq_true rfl) rfl (I_X1_init hst x0)
theorem noT_X1_init (t0 mi : Nat) (x0 : Nat) : noT (f_X1_init t0 mi x0) := by
  unfold f_X1_init
  repeat (first | exact noT_rt | exact noT_flr | (refine noT_bnd ?_ (fun _ => ?_)) | exact noT_pV | exact noT_pZ | exact noT_newO | exact noT_newK | exact noT_newM | exact noT_gA | exact noT_gI | exact noT_init)
/-! LunchMarks.<init>()V -/
abbrev M_X5_init : MS := (yX5_init, cX5_init, 1, none, [], 5, 92)
theorem pd_X5_init : (parseMethodDescriptor (mY M_X5_init).desc).map (fun d => d.parameters.length) = some 0 := by decide +kernel
def f_X5_init (t0 mi : Nat) (x0 : Nat) : Mo Unit :=
    bnd (newO 3 5 [.null, .int 0, .null, .null, .null]) fun v5 =>
    bnd (f_X2_init t0 mi v5) fun _ =>
    bnd (pV x0 6 0 (.ref v5)) fun _ =>
    bnd (newO 0 3 [.int 0, .null, .int 0]) fun v16 =>
    bnd (f_Jx4a65c_init_da8c8 t0 mi v16) fun _ =>
    bnd (pV x0 6 1 (.ref v16)) fun _ =>
    bnd (newO 2 2 [.null, .int 0]) fun v27 =>
    bnd (f_X1_init t0 mi v27) fun _ =>
    bnd (pV x0 6 2 (.ref v27)) fun _ =>
    bnd (newK 0 (.inl fun _ => 0) (60 : Int32)) fun v40 =>
    bnd (pV x0 6 3 (.ref v40)) fun _ =>
    bnd (pV x0 6 4 (.int (0 : Int32))) fun _ =>
    rt ()
set_option maxRecDepth 20000 in
theorem I_X5_init {l : Launch} {g : GX} (hst : l.stackTraces = false) (x0 : Nat) : I l g M_X5_init cvU 0 [(0, .ref x0)] [] (f_X5_init (gt0 g) (gmi g) x0) := by
  unfold f_X5_init
  refine I_aload_n 0 1 dX5_init_0 rfl rfl rfl ?_
  refine I_objInit 4 dX5_init_1 rfl wml_31 wim_1 wcd_2 (by decide) (Nat.le_of_ble_eq_true rfl) ?_
  refine I_aload_n 0 5 dX5_init_4 rfl rfl rfl ?_
  refine I_new 8 dX5_init_5 rfl cl3 wcl_32 wit_33 win_34 df3 (fun v5 => ?_)
  refine I_dup 9 dX5_init_8 rfl rfl ?_
  refine I_init (As := []) (rest := [.ref v5, .ref x0]) 12 (C_X2_init hst v5) (noT_X2_init _ _ _) dX5_init_9 rfl rfl rfl (by decide) (Nat.le_of_ble_eq_true rfl) wcd_35 win_34 wml_36 wim_37 rfl ⟨by decide, by decide, pd_X2_init⟩ ?_
  refine I_putF 15 dX5_init_12 rfl cl6 (by decide) wfl_38 sameF_rfl rfl rfl rfl rfl rfl ?_
  refine I_aload_n 0 16 dX5_init_15 rfl rfl rfl ?_
  refine I_new 19 dX5_init_16 rfl cl0 wcl_39 wit_19 win_20 df0 (fun v16 => ?_)
  refine I_dup 20 dX5_init_19 rfl rfl ?_
  refine I_init (As := []) (rest := [.ref v16, .ref x0]) 23 (C_Jx4a65c_init_da8c8 hst v16) (noT_Jx4a65c_init_da8c8 _ _ _) dX5_init_20 rfl rfl rfl (by decide) (Nat.le_of_ble_eq_true rfl) wcd_21 win_20 wml_40 wim_23 rfl ⟨by decide, by decide, pd_Jx4a65c_init_da8c8⟩ ?_
  refine I_putF 26 dX5_init_23 rfl cl6 (by decide) wfl_41 sameF_rfl rfl rfl rfl rfl rfl ?_
  refine I_aload_n 0 27 dX5_init_26 rfl rfl rfl ?_
  refine I_new 30 dX5_init_27 rfl cl2 wcl_42 wit_43 win_44 df2 (fun v27 => ?_)
  refine I_dup 31 dX5_init_30 rfl rfl ?_
  refine I_init (As := []) (rest := [.ref v27, .ref x0]) 34 (C_X1_init hst v27) (noT_X1_init _ _ _) dX5_init_31 rfl rfl rfl (by decide) (Nat.le_of_ble_eq_true rfl) wcd_45 win_44 wml_46 wim_47 rfl ⟨by decide, by decide, pd_X1_init⟩ ?_
  refine I_putF 37 dX5_init_34 rfl cl6 (by decide) wfl_48 sameF_rfl rfl rfl rfl rfl rfl ?_
  refine I_aload_n 0 38 dX5_init_37 rfl rfl rfl ?_
  refine I_bipush (60 : Int32) 40 dX5_init_38 rfl (by decide) ?_
  refine I_newi 42 dX5_init_40 rfl wac_15 (fun v40 => ?_)
  refine I_putF 45 dX5_init_42 rfl cl6 (by decide) wfl_49 sameF_rfl rfl rfl rfl rfl rfl ?_
  refine I_aload_n 0 46 dX5_init_45 rfl rfl rfl ?_
  refine I_iconst (0 : Int32) 47 dX5_init_46 rfl (by decide) ?_
  refine I_put 50 dX5_init_47 rfl cl6 (by decide) wfl_50 sameF_rfl rfl rfl rfl ?_
  exact I_vret dX5_init_50 rfl
theorem C_X5_init {l : Launch} {g : GX} (hst : l.stackTraces = false) (x0 : Nat) : Cs l g M_X5_init cvU [.ref x0] (f_X5_init (gt0 g) (gmi g) x0) :=
  Cs_of_I [(0, .ref x0)] rfl (by decide) hst (Nat.le_of_ble_eq_true rfl) rfl (I_X5_init hst x0)
theorem noT_X5_init (t0 mi : Nat) (x0 : Nat) : noT (f_X5_init t0 mi x0) := by
  unfold f_X5_init
  repeat (first | exact noT_rt | exact noT_flr | (refine noT_bnd ?_ (fun _ => ?_)) | exact noT_pV | exact noT_pZ | exact noT_newO | exact noT_newK | exact noT_newM | exact noT_gA | exact noT_gI | exact noT_init)
/-! LunchMarksModel.<init>()V -/
abbrev M_X6_init : MS := (yX6_init, cX6_init, 1, none, [], 1, 12)
theorem pd_X6_init : (parseMethodDescriptor (mY M_X6_init).desc).map (fun d => d.parameters.length) = some 0 := by decide +kernel
def f_X6_init (t0 mi : Nat) (x0 : Nat) : Mo Unit :=
    bnd (newK 0 (.inl fun _ => 0) (10 : Int32)) fun v7 =>
    bnd (pV x0 7 6 (.ref v7)) fun _ =>
    bnd (newK 0 (.inl fun _ => 0) (16 : Int32)) fun v15 =>
    bnd (pV x0 7 7 (.ref v15)) fun _ =>
    bnd (newK 0 (.inl fun _ => 0) (16 : Int32)) fun v23 =>
    bnd (pV x0 7 8 (.ref v23)) fun _ =>
    bnd (newK 0 (.inl fun _ => 0) (160 : Int32)) fun v32 =>
    bnd (pV x0 7 9 (.ref v32)) fun _ =>
    bnd (newK 0 (.inl fun _ => 0) (160 : Int32)) fun v41 =>
    bnd (pV x0 7 10 (.ref v41)) fun _ =>
    bnd (newK 0 (.inl fun _ => 0) (160 : Int32)) fun v50 =>
    bnd (pV x0 7 11 (.ref v50)) fun _ =>
    bnd (newK 0 (.inl fun _ => 0) (40 : Int32)) fun v58 =>
    bnd (pV x0 7 12 (.ref v58)) fun _ =>
    bnd (newK 2 (.inl fun _ => 0) (16 : Int32)) fun v66 =>
    bnd (pV x0 7 13 (.ref v66)) fun _ =>
    bnd (newK 0 (.inl fun _ => 0) (60 : Int32)) fun v74 =>
    bnd (pV x0 7 14 (.ref v74)) fun _ =>
    bnd (newK 0 (.inl fun _ => 0) (60 : Int32)) fun v82 =>
    bnd (pV x0 7 15 (.ref v82)) fun _ =>
    bnd (newK 0 (.inl fun _ => 0) (60 : Int32)) fun v90 =>
    bnd (pV x0 7 16 (.ref v90)) fun _ =>
    bnd (newK 0 (.inl fun _ => 0) (60 : Int32)) fun v98 =>
    bnd (pV x0 7 17 (.ref v98)) fun _ =>
    bnd (newK 0 (.inl fun _ => 0) (60 : Int32)) fun v106 =>
    bnd (pV x0 7 18 (.ref v106)) fun _ =>
    bnd (newK 0 (.inl fun _ => 0) (60 : Int32)) fun v114 =>
    bnd (pV x0 7 19 (.ref v114)) fun _ =>
    bnd (newK 0 (.inl fun _ => 0) (60 : Int32)) fun v122 =>
    bnd (pV x0 7 20 (.ref v122)) fun _ =>
    bnd (newK 2 (.inl fun _ => 0) (60 : Int32)) fun v130 =>
    bnd (pV x0 7 21 (.ref v130)) fun _ =>
    bnd (newK 2 (.inl fun _ => 0) (120 : Int32)) fun v138 =>
    bnd (pV x0 7 22 (.ref v138)) fun _ =>
    bnd (newK 2 (.inl fun _ => 0) (120 : Int32)) fun v146 =>
    bnd (pV x0 7 23 (.ref v146)) fun _ =>
    bnd (newK 0 (.inl fun _ => 0) (120 : Int32)) fun v154 =>
    bnd (pV x0 7 24 (.ref v154)) fun _ =>
    bnd (newK 0 (.inl fun _ => 0) (120 : Int32)) fun v162 =>
    bnd (pV x0 7 25 (.ref v162)) fun _ =>
    bnd (newK 0 (.inl fun _ => 0) (120 : Int32)) fun v170 =>
    bnd (pV x0 7 26 (.ref v170)) fun _ =>
    bnd (newK 0 (.inl fun _ => 0) (360 : Int32)) fun v179 =>
    bnd (pV x0 7 27 (.ref v179)) fun _ =>
    bnd (newK 0 (.inl fun _ => 0) (360 : Int32)) fun v188 =>
    bnd (pV x0 7 28 (.ref v188)) fun _ =>
    bnd (newK 0 (.inl fun _ => 0) (360 : Int32)) fun v197 =>
    bnd (pV x0 7 29 (.ref v197)) fun _ =>
    bnd (newK 0 (.inl fun _ => 0) (640 : Int32)) fun v206 =>
    bnd (pV x0 7 30 (.ref v206)) fun _ =>
    bnd (newK 0 (.inl fun _ => 0) (640 : Int32)) fun v215 =>
    bnd (pV x0 7 31 (.ref v215)) fun _ =>
    bnd (newK 2 (.inl fun _ => 0) (60 : Int32)) fun v223 =>
    bnd (pV x0 7 37 (.ref v223)) fun _ =>
    rt ()
set_option maxRecDepth 20000 in
theorem I_X6_init {l : Launch} {g : GX} (hst : l.stackTraces = false) (x0 : Nat) : I l g M_X6_init cvU 0 [(0, .ref x0)] [] (f_X6_init (gt0 g) (gmi g) x0) := by
  unfold f_X6_init
  refine I_aload_n 0 1 dX6_init_0 rfl rfl rfl ?_
  refine I_objInit 4 dX6_init_1 rfl wml_51 wim_1 wcd_2 (by decide) (Nat.le_of_ble_eq_true rfl) ?_
  refine I_aload_n 0 5 dX6_init_4 rfl rfl rfl ?_
  refine I_bipush (10 : Int32) 7 dX6_init_5 rfl (by decide) ?_
  refine I_newi 9 dX6_init_7 rfl wac_15 (fun v7 => ?_)
  refine I_putF 12 dX6_init_9 rfl cl7 (by decide) wfl_52 sameF_rfl rfl rfl rfl rfl rfl ?_
  refine I_aload_n 0 13 dX6_init_12 rfl rfl rfl ?_
  refine I_bipush (16 : Int32) 15 dX6_init_13 rfl (by decide) ?_
  refine I_newi 17 dX6_init_15 rfl wac_15 (fun v15 => ?_)
  refine I_putF 20 dX6_init_17 rfl cl7 (by decide) wfl_53 sameF_rfl rfl rfl rfl rfl rfl ?_
  refine I_aload_n 0 21 dX6_init_20 rfl rfl rfl ?_
  refine I_bipush (16 : Int32) 23 dX6_init_21 rfl (by decide) ?_
  refine I_newi 25 dX6_init_23 rfl wac_15 (fun v23 => ?_)
  refine I_putF 28 dX6_init_25 rfl cl7 (by decide) wfl_54 sameF_rfl rfl rfl rfl rfl rfl ?_
  refine I_aload_n 0 29 dX6_init_28 rfl rfl rfl ?_
  refine I_sipush (160 : Int32) 32 dX6_init_29 rfl (by decide) ?_
  refine I_newi 34 dX6_init_32 rfl wac_15 (fun v32 => ?_)
  refine I_putF 37 dX6_init_34 rfl cl7 (by decide) wfl_55 sameF_rfl rfl rfl rfl rfl rfl ?_
  refine I_aload_n 0 38 dX6_init_37 rfl rfl rfl ?_
  refine I_sipush (160 : Int32) 41 dX6_init_38 rfl (by decide) ?_
  refine I_newi 43 dX6_init_41 rfl wac_15 (fun v41 => ?_)
  refine I_putF 46 dX6_init_43 rfl cl7 (by decide) wfl_56 sameF_rfl rfl rfl rfl rfl rfl ?_
  refine I_aload_n 0 47 dX6_init_46 rfl rfl rfl ?_
  refine I_sipush (160 : Int32) 50 dX6_init_47 rfl (by decide) ?_
  refine I_newi 52 dX6_init_50 rfl wac_15 (fun v50 => ?_)
  refine I_putF 55 dX6_init_52 rfl cl7 (by decide) wfl_57 sameF_rfl rfl rfl rfl rfl rfl ?_
  refine I_aload_n 0 56 dX6_init_55 rfl rfl rfl ?_
  refine I_bipush (40 : Int32) 58 dX6_init_56 rfl (by decide) ?_
  refine I_newi 60 dX6_init_58 rfl wac_15 (fun v58 => ?_)
  refine I_putF 63 dX6_init_60 rfl cl7 (by decide) wfl_58 sameF_rfl rfl rfl rfl rfl rfl ?_
  refine I_aload_n 0 64 dX6_init_63 rfl rfl rfl ?_
  refine I_bipush (16 : Int32) 66 dX6_init_64 rfl (by decide) ?_
  refine I_newz 68 dX6_init_66 rfl wac_59 (fun v66 => ?_)
  refine I_putF 71 dX6_init_68 rfl cl7 (by decide) wfl_60 sameF_rfl rfl rfl rfl rfl rfl ?_
  refine I_aload_n 0 72 dX6_init_71 rfl rfl rfl ?_
  refine I_bipush (60 : Int32) 74 dX6_init_72 rfl (by decide) ?_
  refine I_newi 76 dX6_init_74 rfl wac_15 (fun v74 => ?_)
  refine I_putF 79 dX6_init_76 rfl cl7 (by decide) wfl_61 sameF_rfl rfl rfl rfl rfl rfl ?_
  refine I_aload_n 0 80 dX6_init_79 rfl rfl rfl ?_
  refine I_bipush (60 : Int32) 82 dX6_init_80 rfl (by decide) ?_
  refine I_newi 84 dX6_init_82 rfl wac_15 (fun v82 => ?_)
  refine I_putF 87 dX6_init_84 rfl cl7 (by decide) wfl_62 sameF_rfl rfl rfl rfl rfl rfl ?_
  refine I_aload_n 0 88 dX6_init_87 rfl rfl rfl ?_
  refine I_bipush (60 : Int32) 90 dX6_init_88 rfl (by decide) ?_
  refine I_newi 92 dX6_init_90 rfl wac_15 (fun v90 => ?_)
  refine I_putF 95 dX6_init_92 rfl cl7 (by decide) wfl_63 sameF_rfl rfl rfl rfl rfl rfl ?_
  refine I_aload_n 0 96 dX6_init_95 rfl rfl rfl ?_
  refine I_bipush (60 : Int32) 98 dX6_init_96 rfl (by decide) ?_
  refine I_newi 100 dX6_init_98 rfl wac_15 (fun v98 => ?_)
  refine I_putF 103 dX6_init_100 rfl cl7 (by decide) wfl_64 sameF_rfl rfl rfl rfl rfl rfl ?_
  refine I_aload_n 0 104 dX6_init_103 rfl rfl rfl ?_
  refine I_bipush (60 : Int32) 106 dX6_init_104 rfl (by decide) ?_
  refine I_newi 108 dX6_init_106 rfl wac_15 (fun v106 => ?_)
  refine I_putF 111 dX6_init_108 rfl cl7 (by decide) wfl_65 sameF_rfl rfl rfl rfl rfl rfl ?_
  refine I_aload_n 0 112 dX6_init_111 rfl rfl rfl ?_
  refine I_bipush (60 : Int32) 114 dX6_init_112 rfl (by decide) ?_
  refine I_newi 116 dX6_init_114 rfl wac_15 (fun v114 => ?_)
  refine I_putF 119 dX6_init_116 rfl cl7 (by decide) wfl_66 sameF_rfl rfl rfl rfl rfl rfl ?_
  refine I_aload_n 0 120 dX6_init_119 rfl rfl rfl ?_
  refine I_bipush (60 : Int32) 122 dX6_init_120 rfl (by decide) ?_
  refine I_newi 124 dX6_init_122 rfl wac_15 (fun v122 => ?_)
  refine I_putF 127 dX6_init_124 rfl cl7 (by decide) wfl_67 sameF_rfl rfl rfl rfl rfl rfl ?_
  refine I_aload_n 0 128 dX6_init_127 rfl rfl rfl ?_
  refine I_bipush (60 : Int32) 130 dX6_init_128 rfl (by decide) ?_
  refine I_newz 132 dX6_init_130 rfl wac_59 (fun v130 => ?_)
  refine I_putF 135 dX6_init_132 rfl cl7 (by decide) wfl_68 sameF_rfl rfl rfl rfl rfl rfl ?_
  refine I_aload_n 0 136 dX6_init_135 rfl rfl rfl ?_
  refine I_bipush (120 : Int32) 138 dX6_init_136 rfl (by decide) ?_
  refine I_newz 140 dX6_init_138 rfl wac_59 (fun v138 => ?_)
  refine I_putF 143 dX6_init_140 rfl cl7 (by decide) wfl_69 sameF_rfl rfl rfl rfl rfl rfl ?_
  refine I_aload_n 0 144 dX6_init_143 rfl rfl rfl ?_
  refine I_bipush (120 : Int32) 146 dX6_init_144 rfl (by decide) ?_
  refine I_newz 148 dX6_init_146 rfl wac_59 (fun v146 => ?_)
  refine I_putF 151 dX6_init_148 rfl cl7 (by decide) wfl_70 sameF_rfl rfl rfl rfl rfl rfl ?_
  refine I_aload_n 0 152 dX6_init_151 rfl rfl rfl ?_
  refine I_bipush (120 : Int32) 154 dX6_init_152 rfl (by decide) ?_
  refine I_newi 156 dX6_init_154 rfl wac_15 (fun v154 => ?_)
  refine I_putF 159 dX6_init_156 rfl cl7 (by decide) wfl_71 sameF_rfl rfl rfl rfl rfl rfl ?_
  refine I_aload_n 0 160 dX6_init_159 rfl rfl rfl ?_
  refine I_bipush (120 : Int32) 162 dX6_init_160 rfl (by decide) ?_
  refine I_newi 164 dX6_init_162 rfl wac_15 (fun v162 => ?_)
  refine I_putF 167 dX6_init_164 rfl cl7 (by decide) wfl_72 sameF_rfl rfl rfl rfl rfl rfl ?_
  refine I_aload_n 0 168 dX6_init_167 rfl rfl rfl ?_
  refine I_bipush (120 : Int32) 170 dX6_init_168 rfl (by decide) ?_
  refine I_newi 172 dX6_init_170 rfl wac_15 (fun v170 => ?_)
  refine I_putF 175 dX6_init_172 rfl cl7 (by decide) wfl_73 sameF_rfl rfl rfl rfl rfl rfl ?_
  refine I_aload_n 0 176 dX6_init_175 rfl rfl rfl ?_
  refine I_sipush (360 : Int32) 179 dX6_init_176 rfl (by decide) ?_
  refine I_newi 181 dX6_init_179 rfl wac_15 (fun v179 => ?_)
  refine I_putF 184 dX6_init_181 rfl cl7 (by decide) wfl_74 sameF_rfl rfl rfl rfl rfl rfl ?_
  refine I_aload_n 0 185 dX6_init_184 rfl rfl rfl ?_
  refine I_sipush (360 : Int32) 188 dX6_init_185 rfl (by decide) ?_
  refine I_newi 190 dX6_init_188 rfl wac_15 (fun v188 => ?_)
  refine I_putF 193 dX6_init_190 rfl cl7 (by decide) wfl_75 sameF_rfl rfl rfl rfl rfl rfl ?_
  refine I_aload_n 0 194 dX6_init_193 rfl rfl rfl ?_
  refine I_sipush (360 : Int32) 197 dX6_init_194 rfl (by decide) ?_
  refine I_newi 199 dX6_init_197 rfl wac_15 (fun v197 => ?_)
  refine I_putF 202 dX6_init_199 rfl cl7 (by decide) wfl_76 sameF_rfl rfl rfl rfl rfl rfl ?_
  refine I_aload_n 0 203 dX6_init_202 rfl rfl rfl ?_
  refine I_sipush (640 : Int32) 206 dX6_init_203 rfl (by decide) ?_
  refine I_newi 208 dX6_init_206 rfl wac_15 (fun v206 => ?_)
  refine I_putF 211 dX6_init_208 rfl cl7 (by decide) wfl_77 sameF_rfl rfl rfl rfl rfl rfl ?_
  refine I_aload_n 0 212 dX6_init_211 rfl rfl rfl ?_
  refine I_sipush (640 : Int32) 215 dX6_init_212 rfl (by decide) ?_
  refine I_newi 217 dX6_init_215 rfl wac_15 (fun v215 => ?_)
  refine I_putF 220 dX6_init_217 rfl cl7 (by decide) wfl_78 sameF_rfl rfl rfl rfl rfl rfl ?_
  refine I_aload_n 0 221 dX6_init_220 rfl rfl rfl ?_
  refine I_bipush (60 : Int32) 223 dX6_init_221 rfl (by decide) ?_
  refine I_newz 225 dX6_init_223 rfl wac_59 (fun v223 => ?_)
  refine I_putF 228 dX6_init_225 rfl cl7 (by decide) wfl_79 sameF_rfl rfl rfl rfl rfl rfl ?_
  exact I_vret dX6_init_228 rfl
theorem C_X6_init {l : Launch} {g : GX} (hst : l.stackTraces = false) (x0 : Nat) : Cs l g M_X6_init cvU [.ref x0] (f_X6_init (gt0 g) (gmi g) x0) :=
  Cs_of_I [(0, .ref x0)] rfl (by decide) hst (Nat.le_of_ble_eq_true rfl) rfl (I_X6_init hst x0)
theorem noT_X6_init (t0 mi : Nat) (x0 : Nat) : noT (f_X6_init t0 mi x0) := by
  unfold f_X6_init
  repeat (first | exact noT_rt | exact noT_flr | (refine noT_bnd ?_ (fun _ => ?_)) | exact noT_pV | exact noT_pZ | exact noT_newO | exact noT_newK | exact noT_newM | exact noT_gA | exact noT_gI | exact noT_init)
/-! LunchMarks.isWithin(II)Z -/
abbrev M_X5_isWithin : MS := (yX5_isWithin, cX5_isWithin, 2, (some .boolean), [], 0, 0)
theorem pd_X5_isWithin : (parseMethodDescriptor (mY M_X5_isWithin).desc).map (fun d => d.parameters.length) = some 2 := by decide +kernel
def X5_isWithin_b14 (t0 mi : Nat) (s0 : Int32) : Mo Int32 :=
    rtZ s0
set_option maxRecDepth 20000 in
theorem I_X5_isWithin_b14 {l : Launch} {g : GX} (hst : l.stackTraces = false) (s0 : Int32) : I l g M_X5_isWithin cvI 14 [] [.int s0] (X5_isWithin_b14 (gt0 g) (gmi g) s0) := by
  unfold X5_isWithin_b14
  exact I_zret dX5_isWithin_14 rfl
def X5_isWithin_b13 (t0 mi : Nat) : Mo Int32 :=
    X5_isWithin_b14 t0 mi (0 : Int32)
set_option maxRecDepth 20000 in
theorem I_X5_isWithin_b13 {l : Launch} {g : GX} (hst : l.stackTraces = false) : I l g M_X5_isWithin cvI 13 [] [] (X5_isWithin_b13 (gt0 g) (gmi g)) := by
  unfold X5_isWithin_b13
  refine I_iconst (0 : Int32) 14 dX5_isWithin_13 rfl (by decide) ?_
  refine I_sub [] [] rfl ?_
  exact I_X5_isWithin_b14 hst (0 : Int32)
def f_X5_isWithin (t0 mi : Nat) (x0 : Int32) (x1 : Int32) : Mo Int32 :=
    (if x0 < 0 then
    X5_isWithin_b13 t0 mi
    else
    (if x1 < x0 then
    X5_isWithin_b13 t0 mi
    else
    X5_isWithin_b14 t0 mi (1 : Int32)))
set_option maxRecDepth 20000 in
theorem I_X5_isWithin {l : Launch} {g : GX} (hst : l.stackTraces = false) (x0 : Int32) (x1 : Int32) : I l g M_X5_isWithin cvI 0 [(0, .int x0), (1, .int x1)] [] (f_X5_isWithin (gt0 g) (gmi g) x0 x1) := by
  unfold f_X5_isWithin
  refine I_iload_n 0 1 dX5_isWithin_0 rfl rfl rfl ?_
  refine I_if_lt 13 4 dX5_isWithin_1 rfl rfl (fun _ => ?_) (fun _ => ?_)
  · refine I_sub [] [] rfl ?_
    exact I_X5_isWithin_b13 hst
  · refine I_iload_n 0 5 dX5_isWithin_4 rfl rfl rfl ?_
    refine I_iload_n 1 6 dX5_isWithin_5 rfl rfl rfl ?_
    refine I_icmp_gt 13 9 dX5_isWithin_6 rfl rfl (fun _ => ?_) (fun _ => ?_)
    · refine I_sub [] [] rfl ?_
      exact I_X5_isWithin_b13 hst
    · refine I_iconst (1 : Int32) 10 dX5_isWithin_9 rfl (by decide) ?_
      refine I_goto 14 dX5_isWithin_10 rfl ?_
      refine I_sub [] [] rfl ?_
      exact I_X5_isWithin_b14 hst (1 : Int32)
theorem C_X5_isWithin {l : Launch} {g : GX} (hst : l.stackTraces = false) (x0 : Int32) (x1 : Int32) : Cs l g M_X5_isWithin cvI [.int x0, .int x1] (f_X5_isWithin (gt0 g) (gmi g) x0 x1) :=
  Cs_of_I [(0, .int x0), (1, .int x1)] rfl (by decide) hst (Nat.le_of_ble_eq_true rfl) rfl (I_X5_isWithin hst x0 x1)
/-! LunchMarks$Network.addStation(I)I -/
abbrev M_X2_addStation : MS := (yX2_addStation, cX2_addStation, 2, (some .int), [], 0, 0)
theorem pd_X2_addStation : (parseMethodDescriptor (mY M_X2_addStation).desc).map (fun d => d.parameters.length) = some 1 := by decide +kernel
def f_X2_addStation (t0 mi : Nat) (x0 : Nat) (x1 : Int32) : Mo Int32 :=
    bnd (gI x0 3 1) fun v1 =>
    (if v1 < (10 : Int32) then
    bnd (gA' x0 3 0) fun v12 =>
    bnd (gI x0 3 1) fun v16 =>
    bnd (stK 0 v12 v16 x1) fun _ =>
    bnd (gI x0 3 1) fun v23 =>
    bnd (pV x0 3 1 (.int (v23 + (1 : Int32)))) fun _ =>
    bnd (gI x0 3 1) fun v32 =>
    rt (v32 - (1 : Int32))
    else
    rt (-1 : Int32))
set_option maxRecDepth 20000 in
theorem I_X2_addStation {l : Launch} {g : GX} (hst : l.stackTraces = false) (x0 : Nat) (x1 : Int32) : I l g M_X2_addStation cvI 0 [(0, .ref x0), (1, .int x1)] [] (f_X2_addStation (gt0 g) (gmi g) x0 x1) := by
  unfold f_X2_addStation
  refine I_aload_n 0 1 dX2_addStation_0 rfl rfl rfl ?_
  refine I_getI 4 dX2_addStation_1 rfl cl3 (by decide) wfl_17 sameF_rfl (fun v1 => ?_)
  refine I_bipush (10 : Int32) 6 dX2_addStation_4 rfl (by decide) ?_
  refine I_icmp_lt 11 9 dX2_addStation_6 rfl rfl (fun _ => ?_) (fun _ => ?_)
  · refine I_aload_n 0 12 dX2_addStation_11 rfl rfl rfl ?_
    refine I_getA 15 dX2_addStation_12 rfl cl3 (by decide) wfl_16 sameF_rfl (fun v12 => ?_)
    refine I_aload_n 0 16 dX2_addStation_15 rfl rfl rfl ?_
    refine I_getI 19 dX2_addStation_16 rfl cl3 (by decide) wfl_17 sameF_rfl (fun v16 => ?_)
    refine I_iload_n 1 20 dX2_addStation_19 rfl rfl rfl ?_
    refine I_iast 21 dX2_addStation_20 rfl ?_
    refine I_aload_n 0 22 dX2_addStation_21 rfl rfl rfl ?_
    refine I_dup 23 dX2_addStation_22 rfl rfl ?_
    refine I_getI 26 dX2_addStation_23 rfl cl3 (by decide) wfl_17 sameF_rfl (fun v23 => ?_)
    refine I_iconst (1 : Int32) 27 dX2_addStation_26 rfl (by decide) ?_
    refine I_iadd 28 dX2_addStation_27 rfl ?_
    refine I_put 31 dX2_addStation_28 rfl cl3 (by decide) wfl_17 sameF_rfl rfl rfl rfl ?_
    refine I_aload_n 0 32 dX2_addStation_31 rfl rfl rfl ?_
    refine I_getI 35 dX2_addStation_32 rfl cl3 (by decide) wfl_17 sameF_rfl (fun v32 => ?_)
    refine I_iconst (1 : Int32) 36 dX2_addStation_35 rfl (by decide) ?_
    refine I_isub 37 dX2_addStation_36 rfl ?_
    exact I_iret dX2_addStation_37 rfl
  · refine I_iconst (-1 : Int32) 10 dX2_addStation_9 rfl (by decide) ?_
    exact I_iret dX2_addStation_10 rfl
theorem C_X2_addStation {l : Launch} {g : GX} (hst : l.stackTraces = false) (x0 : Nat) (x1 : Int32) : Cs l g M_X2_addStation cvI [.ref x0, .int x1] (f_X2_addStation (gt0 g) (gmi g) x0 x1) :=
  Cs_of_I [(0, .ref x0), (1, .int x1)] rfl (by decide) hst (Nat.le_of_ble_eq_true rfl) rfl (I_X2_addStation hst x0 x1)
/-! LunchMarks.station(I)I -/
abbrev M_X5_station : MS := (yX5_station, cX5_station, 2, (some .int), [], 1, 21)
theorem pd_X5_station : (parseMethodDescriptor (mY M_X5_station).desc).map (fun d => d.parameters.length) = some 1 := by decide +kernel
def X5_station_b21 (t0 mi : Nat) (s0 : Int32) : Mo Int32 :=
    rt s0
set_option maxRecDepth 20000 in
theorem I_X5_station_b21 {l : Launch} {g : GX} (hst : l.stackTraces = false) (s0 : Int32) : I l g M_X5_station cvI 21 [] [.int s0] (X5_station_b21 (gt0 g) (gmi g) s0) := by
  unfold X5_station_b21
  exact I_iret dX5_station_21 rfl
def f_X5_station (t0 mi : Nat) (x0 : Nat) (x1 : Int32) : Mo Int32 :=
    bnd (f_X5_isWithin t0 mi x1 (60 : Int32)) fun v3 =>
    (if v3 = 0 then
    X5_station_b21 t0 mi (-1 : Int32)
    else
    bnd (gA' x0 6 0) fun v10 =>
    bnd (vc v10 3 (f_X2_addStation t0 mi v10 x1)) fun v14 =>
    X5_station_b21 t0 mi v14)
set_option maxRecDepth 20000 in
theorem I_X5_station {l : Launch} {g : GX} (hst : l.stackTraces = false) (x0 : Nat) (x1 : Int32) : I l g M_X5_station cvI 0 [(0, .ref x0), (1, .int x1)] [] (f_X5_station (gt0 g) (gmi g) x0 x1) := by
  unfold f_X5_station
  refine I_iload_n 1 1 dX5_station_0 rfl rfl rfl ?_
  refine I_bipush (60 : Int32) 3 dX5_station_1 rfl (by decide) ?_
  refine I_callSi (As := [.int x1, .int (60 : Int32)]) (rest := []) 6 (C_X5_isWithin hst x1 (60 : Int32)) dX5_station_3 rfl rfl (by decide) (Nat.le_of_ble_eq_true rfl) wcd_80 win_81 wml_82 wst_83 ⟨by decide, by decide, pd_X5_isWithin⟩ (fun x hx => by cases hx) (fun v3 => ?_)
  refine I_if_eq 20 9 dX5_station_6 rfl rfl (fun _ => ?_) (fun _ => ?_)
  · refine I_iconst (-1 : Int32) 21 dX5_station_20 rfl (by decide) ?_
    refine I_sub [] [] rfl ?_
    exact I_X5_station_b21 hst (-1 : Int32)
  · refine I_aload_n 0 10 dX5_station_9 rfl rfl rfl ?_
    refine I_getA 13 dX5_station_10 rfl cl6 (by decide) wfl_38 sameF_rfl (fun v10 => ?_)
    refine I_iload_n 1 14 dX5_station_13 rfl rfl rfl ?_
    refine I_callVi (As := [.int x1]) (rest := []) 17 (C_X2_addStation hst v10 x1) dX5_station_14 rfl cl3 rfl (by decide) (Nat.le_of_ble_eq_true rfl) wcd_84 win_34 wml_85 wim_86 wse_87 ⟨by decide, by decide, pd_X2_addStation⟩ (fun x hx => by cases hx) (fun v14 => ?_)
    refine I_goto 21 dX5_station_17 rfl ?_
    refine I_sub [] [] rfl ?_
    exact I_X5_station_b21 hst v14
theorem C_X5_station {l : Launch} {g : GX} (hst : l.stackTraces = false) (x0 : Nat) (x1 : Int32) : Cs l g M_X5_station cvI [.ref x0, .int x1] (f_X5_station (gt0 g) (gmi g) x0 x1) :=
  Cs_of_I [(0, .ref x0), (1, .int x1)] rfl (by decide) hst (Nat.le_of_ble_eq_true rfl) rfl (I_X5_station hst x0 x1)
/-! LunchMarksModel.station(I)I -/
abbrev M_X6_station : MS := (yX6_station, cX6_station, 2, (some .int), [], 0, 0)
theorem pd_X6_station : (parseMethodDescriptor (mY M_X6_station).desc).map (fun d => d.parameters.length) = some 1 := by decide +kernel
def X6_station_b24 (t0 mi : Nat) : Mo Int32 :=
    rt (-1 : Int32)
set_option maxRecDepth 20000 in
theorem I_X6_station_b24 {l : Launch} {g : GX} (hst : l.stackTraces = false) : I l g M_X6_station cvI 24 [] [] (X6_station_b24 (gt0 g) (gmi g)) := by
  unfold X6_station_b24
  refine I_iconst (-1 : Int32) 25 dX6_station_24 rfl (by decide) ?_
  exact I_iret dX6_station_25 rfl
def f_X6_station (t0 mi : Nat) (x0 : Nat) (x1 : Int32) : Mo Int32 :=
    bnd (pV x0 7 0 (.int (0 : Int32))) fun _ =>
    bnd (gI x0 7 2) fun v6 =>
    (if v6 = (10 : Int32) then
    X6_station_b24 t0 mi
    else
    (if x1 < 0 then
    X6_station_b24 t0 mi
    else
    (if x1 ≤ (60 : Int32) then
    bnd (gA' x0 7 6) fun v27 =>
    bnd (gI x0 7 2) fun v31 =>
    bnd (stK 0 v27 v31 x1) fun _ =>
    bnd (gI x0 7 2) fun v38 =>
    bnd (pV x0 7 2 (.int (v38 + (1 : Int32)))) fun _ =>
    bnd (gI x0 7 2) fun v47 =>
    rt (v47 - (1 : Int32))
    else
    X6_station_b24 t0 mi)))
set_option maxRecDepth 20000 in
theorem I_X6_station {l : Launch} {g : GX} (hst : l.stackTraces = false) (x0 : Nat) (x1 : Int32) : I l g M_X6_station cvI 0 [(0, .ref x0), (1, .int x1)] [] (f_X6_station (gt0 g) (gmi g) x0 x1) := by
  unfold f_X6_station
  refine I_aload_n 0 1 dX6_station_0 rfl rfl rfl ?_
  refine I_iconst (0 : Int32) 2 dX6_station_1 rfl (by decide) ?_
  refine I_put 5 dX6_station_2 rfl cl7 (by decide) wfl_88 sameF_rfl rfl rfl rfl ?_
  refine I_aload_n 0 6 dX6_station_5 rfl rfl rfl ?_
  refine I_getI 9 dX6_station_6 rfl cl7 (by decide) wfl_89 sameF_rfl (fun v6 => ?_)
  refine I_bipush (10 : Int32) 11 dX6_station_9 rfl (by decide) ?_
  refine I_icmp_eq 24 14 dX6_station_11 rfl rfl (fun _ => ?_) (fun _ => ?_)
  · refine I_sub [] [] rfl ?_
    exact I_X6_station_b24 hst
  · refine I_iload_n 1 15 dX6_station_14 rfl rfl rfl ?_
    refine I_if_lt 24 18 dX6_station_15 rfl rfl (fun _ => ?_) (fun _ => ?_)
    · refine I_sub [] [] rfl ?_
      exact I_X6_station_b24 hst
    · refine I_iload_n 1 19 dX6_station_18 rfl rfl rfl ?_
      refine I_bipush (60 : Int32) 21 dX6_station_19 rfl (by decide) ?_
      refine I_icmp_le 26 24 dX6_station_21 rfl rfl (fun _ => ?_) (fun _ => ?_)
      · refine I_aload_n 0 27 dX6_station_26 rfl rfl rfl ?_
        refine I_getA 30 dX6_station_27 rfl cl7 (by decide) wfl_52 sameF_rfl (fun v27 => ?_)
        refine I_aload_n 0 31 dX6_station_30 rfl rfl rfl ?_
        refine I_getI 34 dX6_station_31 rfl cl7 (by decide) wfl_89 sameF_rfl (fun v31 => ?_)
        refine I_iload_n 1 35 dX6_station_34 rfl rfl rfl ?_
        refine I_iast 36 dX6_station_35 rfl ?_
        refine I_aload_n 0 37 dX6_station_36 rfl rfl rfl ?_
        refine I_dup 38 dX6_station_37 rfl rfl ?_
        refine I_getI 41 dX6_station_38 rfl cl7 (by decide) wfl_89 sameF_rfl (fun v38 => ?_)
        refine I_iconst (1 : Int32) 42 dX6_station_41 rfl (by decide) ?_
        refine I_iadd 43 dX6_station_42 rfl ?_
        refine I_put 46 dX6_station_43 rfl cl7 (by decide) wfl_89 sameF_rfl rfl rfl rfl ?_
        refine I_aload_n 0 47 dX6_station_46 rfl rfl rfl ?_
        refine I_getI 50 dX6_station_47 rfl cl7 (by decide) wfl_89 sameF_rfl (fun v47 => ?_)
        refine I_iconst (1 : Int32) 51 dX6_station_50 rfl (by decide) ?_
        refine I_isub 52 dX6_station_51 rfl ?_
        exact I_iret dX6_station_52 rfl
      · refine I_sub [] [] rfl ?_
        exact I_X6_station_b24 hst
theorem C_X6_station {l : Launch} {g : GX} (hst : l.stackTraces = false) (x0 : Nat) (x1 : Int32) : Cs l g M_X6_station cvI [.ref x0, .int x1] (f_X6_station (gt0 g) (gmi g) x0 x1) :=
  Cs_of_I [(0, .ref x0), (1, .int x1)] rfl (by decide) hst (Nat.le_of_ble_eq_true rfl) rfl (I_X6_station hst x0 x1)
/-! java/util/ArrayList.size()I -/
abbrev M_Jx4a65c_size_8abf5 : MS := (yJx4a65c_size_8abf5, cJx4a65c_size_8abf5, 1, (some .int), [], 0, 0)
theorem pd_Jx4a65c_size_8abf5 : (parseMethodDescriptor (mY M_Jx4a65c_size_8abf5).desc).map (fun d => d.parameters.length) = some 0 := by decide +kernel
def f_Jx4a65c_size_8abf5 (t0 mi : Nat) (x0 : Nat) : Mo Int32 :=
    bnd (gI x0 0 2) fun v1 =>
    rt v1
set_option maxRecDepth 20000 in
theorem I_Jx4a65c_size_8abf5 {l : Launch} {g : GX} (hst : l.stackTraces = false) (x0 : Nat) : I l g M_Jx4a65c_size_8abf5 cvI 0 [(0, .ref x0)] [] (f_Jx4a65c_size_8abf5 (gt0 g) (gmi g) x0) := by
  unfold f_Jx4a65c_size_8abf5
  refine I_aload_n 0 1 dJx4a65c_size_8abf5_0 rfl rfl rfl ?_
  refine I_getI 4 dJx4a65c_size_8abf5_1 rfl cl0 (by decide) wfl_90 sameF_rfl (fun v1 => ?_)
  exact I_iret dJx4a65c_size_8abf5_4 rfl
theorem C_Jx4a65c_size_8abf5 {l : Launch} {g : GX} (hst : l.stackTraces = false) (x0 : Nat) : Cs l g M_Jx4a65c_size_8abf5 cvI [.ref x0] (f_Jx4a65c_size_8abf5 (gt0 g) (gmi g) x0) :=
  Cs_of_I [(0, .ref x0)] rfl (by decide) hst (Nat.le_of_ble_eq_true rfl) rfl (I_Jx4a65c_size_8abf5 hst x0)
/-! LunchMarks$Train.<init>(I)V -/
abbrev M_X3_init : MS := (yX3_init, cX3_init, 2, none, [], 1, 12)
theorem pd_X3_init : (parseMethodDescriptor (mY M_X3_init).desc).map (fun d => d.parameters.length) = some 1 := by decide +kernel
def f_X3_init (t0 mi : Nat) (x0 : Nat) (x1 : Int32) : Mo Unit :=
    bnd (pV x0 4 0 (.int x1)) fun _ =>
    bnd (newK 0 (.inl fun _ => 0) (10 : Int32)) fun v12 =>
    bnd (pV x0 4 1 (.ref v12)) fun _ =>
    bnd (newK 0 (.inl fun _ => 0) (10 : Int32)) fun v20 =>
    bnd (pV x0 4 2 (.ref v20)) fun _ =>
    bnd (newK 0 (.inl fun _ => 0) (10 : Int32)) fun v28 =>
    bnd (pV x0 4 3 (.ref v28)) fun _ =>
    bnd (pV x0 4 4 (.int (0 : Int32))) fun _ =>
    bnd (pZ x0 4 5 (0 : Int32)) fun _ =>
    rt ()
set_option maxRecDepth 20000 in
theorem I_X3_init {l : Launch} {g : GX} (hst : l.stackTraces = false) (x0 : Nat) (x1 : Int32) : I l g M_X3_init cvU 0 [(0, .ref x0), (1, .int x1)] [] (f_X3_init (gt0 g) (gmi g) x0 x1) := by
  unfold f_X3_init
  refine I_aload_n 0 1 dX3_init_0 rfl rfl rfl ?_
  refine I_objInit 4 dX3_init_1 rfl wml_91 wim_1 wcd_2 (by decide) (Nat.le_of_ble_eq_true rfl) ?_
  refine I_aload_n 0 5 dX3_init_4 rfl rfl rfl ?_
  refine I_iload_n 1 6 dX3_init_5 rfl rfl rfl ?_
  refine I_putF 9 dX3_init_6 rfl cl4 (by decide) wfl_92 sameF_rfl rfl rfl rfl rfl rfl ?_
  refine I_aload_n 0 10 dX3_init_9 rfl rfl rfl ?_
  refine I_bipush (10 : Int32) 12 dX3_init_10 rfl (by decide) ?_
  refine I_newi 14 dX3_init_12 rfl wac_15 (fun v12 => ?_)
  refine I_putF 17 dX3_init_14 rfl cl4 (by decide) wfl_93 sameF_rfl rfl rfl rfl rfl rfl ?_
  refine I_aload_n 0 18 dX3_init_17 rfl rfl rfl ?_
  refine I_bipush (10 : Int32) 20 dX3_init_18 rfl (by decide) ?_
  refine I_newi 22 dX3_init_20 rfl wac_15 (fun v20 => ?_)
  refine I_putF 25 dX3_init_22 rfl cl4 (by decide) wfl_94 sameF_rfl rfl rfl rfl rfl rfl ?_
  refine I_aload_n 0 26 dX3_init_25 rfl rfl rfl ?_
  refine I_bipush (10 : Int32) 28 dX3_init_26 rfl (by decide) ?_
  refine I_newi 30 dX3_init_28 rfl wac_15 (fun v28 => ?_)
  refine I_putF 33 dX3_init_30 rfl cl4 (by decide) wfl_95 sameF_rfl rfl rfl rfl rfl rfl ?_
  refine I_aload_n 0 34 dX3_init_33 rfl rfl rfl ?_
  refine I_iconst (0 : Int32) 35 dX3_init_34 rfl (by decide) ?_
  refine I_put 38 dX3_init_35 rfl cl4 (by decide) wfl_96 sameF_rfl rfl rfl rfl ?_
  refine I_aload_n 0 39 dX3_init_38 rfl rfl rfl ?_
  refine I_iconst (0 : Int32) 40 dX3_init_39 rfl (by decide) ?_
  refine I_putZ 43 dX3_init_40 rfl cl4 (by decide) wfl_97 sameF_rfl rfl rfl ?_
  exact I_vret dX3_init_43 rfl
theorem C_X3_init {l : Launch} {g : GX} (hst : l.stackTraces = false) (x0 : Nat) (x1 : Int32) : Cs l g M_X3_init cvU [.ref x0, .int x1] (f_X3_init (gt0 g) (gmi g) x0 x1) :=
  Cs_of_I [(0, .ref x0), (1, .int x1)] rfl (by decide) hst (Nat.le_of_ble_eq_true rfl) rfl (I_X3_init hst x0 x1)
theorem noT_X3_init (t0 mi : Nat) (x0 : Nat) (x1 : Int32) : noT (f_X3_init t0 mi x0 x1) := by
  unfold f_X3_init
  repeat (first | exact noT_rt | exact noT_flr | (refine noT_bnd ?_ (fun _ => ?_)) | exact noT_pV | exact noT_pZ | exact noT_newO | exact noT_newK | exact noT_newM | exact noT_gA | exact noT_gI | exact noT_init)
/-! jdk/internal/util/ArraysSupport.newLength(III)I -/
abbrev M_J8_newLength_cabcc : MS := (yJ8_newLength_cabcc, cJ8_newLength_cabcc, 4, (some .int), [], 1, 14)
theorem pd_J8_newLength_cabcc : (parseMethodDescriptor (mY M_J8_newLength_cabcc).desc).map (fun d => d.parameters.length) = some 3 := by decide +kernel
def J8_newLength_cabcc_b21 (t0 mi : Nat) (x0 : Int32) (x1 : Int32) : Mo Int32 :=
    flr
set_option maxRecDepth 20000 in
theorem I_J8_newLength_cabcc_b21 {l : Launch} {g : GX} (hst : l.stackTraces = false) (x0 : Int32) (x1 : Int32) : I l g M_J8_newLength_cabcc cvI 21 [(0, .int x0), (1, .int x1)] [] (J8_newLength_cabcc_b21 (gt0 g) (gmi g) x0 x1) := by
  unfold J8_newLength_cabcc_b21
  refine I_iload_n 0 22 dJ8_newLength_cabcc_21 rfl rfl rfl ?_
  refine I_iload_n 1 23 dJ8_newLength_cabcc_22 rfl rfl rfl ?_
  exact I_flr
def f_J8_newLength_cabcc (t0 mi : Nat) (x0 : Int32) (x1 : Int32) (x2 : Int32) : Mo Int32 :=
    (if (x0 + (mx x1 x2)) ≤ (0 : Int32) then
    J8_newLength_cabcc_b21 t0 mi x0 x1
    else
    (if (2147483639 : Int32) < (x0 + (mx x1 x2)) then
    J8_newLength_cabcc_b21 t0 mi x0 x1
    else
    rt (x0 + (mx x1 x2))))
set_option maxRecDepth 20000 in
theorem I_J8_newLength_cabcc {l : Launch} {g : GX} (hst : l.stackTraces = false) (x0 : Int32) (x1 : Int32) (x2 : Int32) : I l g M_J8_newLength_cabcc cvI 0 [(0, .int x0), (1, .int x1), (2, .int x2)] [] (f_J8_newLength_cabcc (gt0 g) (gmi g) x0 x1 x2) := by
  unfold f_J8_newLength_cabcc
  refine I_iload_n 0 1 dJ8_newLength_cabcc_0 rfl rfl rfl ?_
  refine I_iload_n 1 2 dJ8_newLength_cabcc_1 rfl rfl rfl ?_
  refine I_iload_n 2 3 dJ8_newLength_cabcc_2 rfl rfl rfl ?_
  refine I_mmax 6 dJ8_newLength_cabcc_3 rfl wml_98 (by decide) (Nat.le_of_ble_eq_true rfl) ?_
  refine I_iadd 7 dJ8_newLength_cabcc_6 rfl ?_
  refine I_istore_n 8 [(3, .int (x0 + (mx x1 x2))), (0, .int x0), (1, .int x1), (2, .int x2)] dJ8_newLength_cabcc_7 rfl rfl (by decide) rfl ?_
  refine I_iconst (0 : Int32) 9 dJ8_newLength_cabcc_8 rfl (by decide) ?_
  refine I_iload_n 0 10 dJ8_newLength_cabcc_9 rfl rfl rfl ?_
  refine I_icmp_ge 21 13 dJ8_newLength_cabcc_10 rfl rfl (fun _ => ?_) (fun _ => ?_)
  · refine I_sub [(0, .int x0), (1, .int x1)] [1, 2] rfl ?_
    exact I_J8_newLength_cabcc_b21 hst x0 x1
  · refine I_iload_n 0 14 dJ8_newLength_cabcc_13 rfl rfl rfl ?_
    refine I_ldc (v := 2147483639) 16 dJ8_newLength_cabcc_14 rfl wcn_99 ?_
    refine I_icmp_gt 21 19 dJ8_newLength_cabcc_16 rfl rfl (fun _ => ?_) (fun _ => ?_)
    · refine I_sub [(0, .int x0), (1, .int x1)] [1, 2] rfl ?_
      exact I_J8_newLength_cabcc_b21 hst x0 x1
    · refine I_iload_n 0 20 dJ8_newLength_cabcc_19 rfl rfl rfl ?_
      exact I_iret dJ8_newLength_cabcc_20 rfl
theorem C_J8_newLength_cabcc {l : Launch} {g : GX} (hst : l.stackTraces = false) (x0 : Int32) (x1 : Int32) (x2 : Int32) : Cs l g M_J8_newLength_cabcc cvI [.int x0, .int x1, .int x2] (f_J8_newLength_cabcc (gt0 g) (gmi g) x0 x1 x2) :=
  Cs_of_I [(0, .int x0), (1, .int x1), (2, .int x2)] rfl (by decide) hst (Nat.le_of_ble_eq_true rfl) rfl (I_J8_newLength_cabcc hst x0 x1 x2)
/-! java/util/Arrays.copyOf([Ljava/lang/Object;ILjava/lang/Class;)[Ljava/lang/Object; -/
abbrev M_J7_copyOf_6403c : MS := (yJ7_copyOf_6403c, cJ7_copyOf_6403c, 4, (some (.array (.object "java/lang/Object"))), [], 1, 40)
theorem pd_J7_copyOf_6403c : (parseMethodDescriptor (mY M_J7_copyOf_6403c).desc).map (fun d => d.parameters.length) = some 3 := by decide +kernel
def J7_copyOf_6403c_b24 (t0 mi : Nat) (x0 : Nat) (x1 : Int32) (s0 : Nat) : Mo Nat :=
    bnd (alen x0) fun v30 =>
    bnd (acpy x0 (0 : Int32) s0 (0 : Int32) (mn v30 x1)) fun _ =>
    rt s0
set_option maxRecDepth 20000 in
theorem I_J7_copyOf_6403c_b24 {l : Launch} {g : GX} (hst : l.stackTraces = false) (x0 : Nat) (x1 : Int32) (s0 : Nat) : I l g M_J7_copyOf_6403c cvA 24 [(0, .ref x0), (1, .int x1)] [.ref s0] (J7_copyOf_6403c_b24 (gt0 g) (gmi g) x0 x1 s0) := by
  unfold J7_copyOf_6403c_b24
  refine I_astore_n 25 [(3, .ref s0), (0, .ref x0), (1, .int x1)] dJ7_copyOf_6403c_24 rfl rfl (by decide) rfl ?_
  refine I_aload_n 1 26 dJ7_copyOf_6403c_25 rfl rfl rfl ?_
  refine I_iconst (0 : Int32) 27 dJ7_copyOf_6403c_26 rfl (by decide) ?_
  refine I_aload_n 0 28 dJ7_copyOf_6403c_27 rfl rfl rfl ?_
  refine I_iconst (0 : Int32) 29 dJ7_copyOf_6403c_28 rfl (by decide) ?_
  refine I_aload_n 1 30 dJ7_copyOf_6403c_29 rfl rfl rfl ?_
  refine I_alen 31 dJ7_copyOf_6403c_30 rfl (fun v30 => ?_)
  refine I_iload_n 2 32 dJ7_copyOf_6403c_31 rfl rfl rfl ?_
  refine I_mmin 35 dJ7_copyOf_6403c_32 rfl wml_102 (by decide) (Nat.le_of_ble_eq_true rfl) ?_
  refine I_copy 38 dJ7_copyOf_6403c_35 rfl wml_103 (by decide) (Nat.le_of_ble_eq_true rfl) ?_
  refine I_aload_n 0 39 dJ7_copyOf_6403c_38 rfl rfl rfl ?_
  exact I_aret dJ7_copyOf_6403c_39 rfl (Or.inr ⟨_, rfl⟩)
def f_J7_copyOf_6403c (t0 mi : Nat) (x0 : Nat) (x1 : Int32) (x2 : Nat) : Mo Nat :=
    (if x2 = mi then
    bnd (newK 3 (.inr (.inr (.inr (.inr fun _ => none)))) x1) fun v7 =>
    J7_copyOf_6403c_b24 t0 mi x0 x1 v7
    else
    flr)
set_option maxRecDepth 20000 in
theorem I_J7_copyOf_6403c {l : Launch} {g : GX} (hst : l.stackTraces = false) (x0 : Nat) (x1 : Int32) (x2 : Nat) : I l g M_J7_copyOf_6403c cvA 0 [(0, .ref x0), (1, .int x1), (2, .ref x2)] [] (f_J7_copyOf_6403c (gt0 g) (gmi g) x0 x1 x2) := by
  unfold f_J7_copyOf_6403c
  refine I_aload_n 2 1 dJ7_copyOf_6403c_0 rfl rfl rfl ?_
  refine I_ldcM 3 dJ7_copyOf_6403c_1 rfl wcl_100 ?_
  refine I_acmp_ne 13 6 dJ7_copyOf_6403c_3 rfl rfl (fun _ => ?_) (fun _ => ?_)
  · refine I_iload_n 1 7 dJ7_copyOf_6403c_6 rfl rfl rfl ?_
    refine I_newq 10 dJ7_copyOf_6403c_7 rfl wcl_101 (fun v7 => ?_)
    refine I_goto 24 dJ7_copyOf_6403c_10 rfl ?_
    refine I_sub [(0, .ref x0), (1, .int x1)] [0, 1] rfl ?_
    exact I_J7_copyOf_6403c_b24 hst x0 x1 v7
  · refine I_aload_n 2 14 dJ7_copyOf_6403c_13 rfl rfl rfl ?_
    exact I_flr
theorem C_J7_copyOf_6403c {l : Launch} {g : GX} (hst : l.stackTraces = false) (x0 : Nat) (x1 : Int32) (x2 : Nat) : Cs l g M_J7_copyOf_6403c cvA [.ref x0, .int x1, .ref x2] (f_J7_copyOf_6403c (gt0 g) (gmi g) x0 x1 x2) :=
  Cs_of_I [(0, .ref x0), (1, .int x1), (2, .ref x2)] rfl (by decide) hst (Nat.le_of_ble_eq_true rfl) rfl (I_J7_copyOf_6403c hst x0 x1 x2)
/-! java/util/Arrays.copyOf([Ljava/lang/Object;I)[Ljava/lang/Object; -/
abbrev M_J7_copyOf_1904c : MS := (yJ7_copyOf_1904c, cJ7_copyOf_1904c, 2, (some (.array (.object "java/lang/Object"))), [], 2, 63)
theorem pd_J7_copyOf_1904c : (parseMethodDescriptor (mY M_J7_copyOf_1904c).desc).map (fun d => d.parameters.length) = some 2 := by decide +kernel
def f_J7_copyOf_1904c (t0 mi : Nat) (x0 : Nat) (x1 : Int32) : Mo Nat :=
    bnd (isA x0) fun _ =>
    bnd (f_J7_copyOf_6403c t0 mi x0 x1 mi) fun v6 =>
    rt v6
set_option maxRecDepth 20000 in
theorem I_J7_copyOf_1904c {l : Launch} {g : GX} (hst : l.stackTraces = false) (x0 : Nat) (x1 : Int32) : I l g M_J7_copyOf_1904c cvA 0 [(0, .ref x0), (1, .int x1)] [] (f_J7_copyOf_1904c (gt0 g) (gmi g) x0 x1) := by
  unfold f_J7_copyOf_1904c
  refine I_aload_n 0 1 dJ7_copyOf_1904c_0 rfl rfl rfl ?_
  refine I_iload_n 1 2 dJ7_copyOf_1904c_1 rfl rfl rfl ?_
  refine I_aload_n 0 3 dJ7_copyOf_1904c_2 rfl rfl rfl ?_
  refine I_getC 6 dJ7_copyOf_1904c_3 rfl wml_104 (by decide) (Nat.le_of_ble_eq_true rfl) ?_
  refine I_callSa (As := [.ref x0, .int x1, .ref (gmi g)]) (rest := []) 9 (C_J7_copyOf_6403c hst x0 x1 (gmi g)) dJ7_copyOf_1904c_6 rfl rfl (by decide) (Nat.le_of_ble_eq_true rfl) wcd_105 win_106 wml_107 wst_108 ⟨by decide, by decide, pd_J7_copyOf_6403c⟩ (fun x hx => by cases hx) (fun v6 => ?_)
  exact I_aret dJ7_copyOf_1904c_9 rfl (Or.inr ⟨_, rfl⟩)
theorem C_J7_copyOf_1904c {l : Launch} {g : GX} (hst : l.stackTraces = false) (x0 : Nat) (x1 : Int32) : Cs l g M_J7_copyOf_1904c cvA [.ref x0, .int x1] (f_J7_copyOf_1904c (gt0 g) (gmi g) x0 x1) :=
  Cs_of_I [(0, .ref x0), (1, .int x1)] rfl (by decide) hst (Nat.le_of_ble_eq_true rfl) rfl (I_J7_copyOf_1904c hst x0 x1)
