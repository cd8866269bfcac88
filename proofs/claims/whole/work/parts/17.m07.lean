/-! LunchMarks.leadAnew()V -/
abbrev M_X5_leadAnew : MS := (yX5_leadAnew, cX5_leadAnew, 3, none, [], 6, 146)
theorem pd_X5_leadAnew : (parseMethodDescriptor (mY M_X5_leadAnew).desc).map (fun d => d.parameters.length) = some 0 := by decide +kernel
def X5_leadAnew_b52 (t0 mi : Nat) (kh2 : Int32 → Mo Unit) (x0 : Nat) (x1 : Int32) : Mo Unit :=
    kh2 (x1 + 1)
set_option maxRecDepth 20000 in
theorem I_X5_leadAnew_b52 {l : Launch} {g : GX} (hst : l.stackTraces = false) (x0 : Nat) (x1 : Int32) (kh2 : Int32 → Mo Unit) (hkh2 : ∀ (z1 : Int32), I l g M_X5_leadAnew cvU 2 [(0, .ref x0), (1, .int z1)] [] (kh2 z1)) : I l g M_X5_leadAnew cvU 52 [(0, .ref x0), (1, .int x1)] [] (X5_leadAnew_b52 (gt0 g) (gmi g) kh2 x0 x1) := by
  unfold X5_leadAnew_b52
  refine I_iinc 55 (x1 + 1) [(1, .int (x1 + 1)), (0, .ref x0)] 1 dX5_leadAnew_52 rfl rfl rfl (by decide) rfl ?_
  refine I_goto 2 dX5_leadAnew_55 rfl ?_
  refine I_sub [(0, .ref x0), (1, .int (x1 + 1))] [1, 0] rfl ?_
  exact hkh2 (x1 + 1)
def X5_leadAnew_L2 (t0 mi : Nat) (x0 : Nat) (kx : Mo Unit) : Nat → Int32 → Mo Unit
  | 0, _ => flr
  | n + 1, x1 =>
    bnd (gA' x0 6 1) fun v4 =>
    bnd (vc v4 0 (f_Jx4a65c_size_8abf5 t0 mi v4)) fun v7 =>
    (if v7 ≤ x1 then
    kx
    else
    bnd (gA' x0 6 1) fun v14 =>
    bnd (vc v14 0 (f_Jx4a65c_get_915e3 t0 mi v14 x1)) fun v18 =>
    bnd (isC v18 1) fun _ =>
    bnd (vc v18 1 (f_X0_current t0 mi v18)) fun v24 =>
    bnd (gI v24 5 12) fun v29 =>
    (if v29 = 0 then
    X5_leadAnew_b52 t0 mi (X5_leadAnew_L2 t0 mi x0 kx n) x0 x1
    else
    bnd (gA' x0 6 0) fun v36 =>
    bnd (gI v24 5 10) fun v41 =>
    bnd (gI v24 5 11) fun v45 =>
    bnd (vc v36 3 (f_X2_leadOn t0 mi v36 v24 v41 v45)) fun v48 =>
    X5_leadAnew_b52 t0 mi (X5_leadAnew_L2 t0 mi x0 kx n) x0 x1))
set_option maxRecDepth 20000 in
theorem I_X5_leadAnew_L2 {l : Launch} {g : GX} (hst : l.stackTraces = false) (x0 : Nat) (kx : Mo Unit) (hkx : I l g M_X5_leadAnew cvU 58 [] [] kx) : ∀ (n : Nat) (x1 : Int32), I l g M_X5_leadAnew cvU 2 [(0, .ref x0), (1, .int x1)] [] (X5_leadAnew_L2 (gt0 g) (gmi g) x0 kx n x1) := by
  intro n
  induction n with
  | zero => intro x1; rw [X5_leadAnew_L2]; exact I_flr
  | succ n ih =>
    intro x1; rw [X5_leadAnew_L2]
    refine I_iload_n 1 3 dX5_leadAnew_2 rfl rfl rfl ?_
    refine I_aload_n 0 4 dX5_leadAnew_3 rfl rfl rfl ?_
    refine I_getA 7 dX5_leadAnew_4 rfl cl6 (by decide) wfl_41 sameF_rfl (fun v4 => ?_)
    refine I_callVi (As := []) (rest := [.int x1]) 10 (C_Jx4a65c_size_8abf5 hst v4) dX5_leadAnew_7 rfl cl0 rfl (by decide) (Nat.le_of_ble_eq_true rfl) wcd_131 win_20 wml_165 wim_133 wse_134 ⟨by decide, by decide, pd_Jx4a65c_size_8abf5⟩ (fun x hx => by cases hx) (fun v7 => ?_)
    refine I_icmp_ge 58 13 dX5_leadAnew_10 rfl rfl (fun _ => ?_) (fun _ => ?_)
    · refine I_sub [] [] rfl ?_
      exact hkx
    · refine I_aload_n 0 14 dX5_leadAnew_13 rfl rfl rfl ?_
      refine I_getA 17 dX5_leadAnew_14 rfl cl6 (by decide) wfl_41 sameF_rfl (fun v14 => ?_)
      refine I_iload_n 1 18 dX5_leadAnew_17 rfl rfl rfl ?_
      refine I_callVa (As := [.int x1]) (rest := []) 21 (C_Jx4a65c_get_915e3 hst v14 x1) dX5_leadAnew_18 rfl cl0 rfl (by decide) (Nat.le_of_ble_eq_true rfl) wcd_166 win_20 wml_167 wim_168 wse_169 ⟨by decide, by decide, pd_Jx4a65c_get_915e3⟩ (fun x hx => by cases hx) (fun v18 => ?_)
      refine I_cast 24 dX5_leadAnew_21 rfl cl1 wcl_228 ?_
      refine I_callVa (As := []) (rest := []) 27 (C_X0_current hst v18) dX5_leadAnew_24 rfl cl1 rfl (by decide) (Nat.le_of_ble_eq_true rfl) wcd_332 win_230 wml_333 wim_334 wse_335 ⟨by decide, by decide, pd_X0_current⟩ (fun x hx => by cases hx) (fun v24 => ?_)
      refine I_astore_n 28 [(2, .ref v24), (0, .ref x0), (1, .int x1)] dX5_leadAnew_27 rfl rfl (by decide) rfl ?_
      refine I_aload_n 0 29 dX5_leadAnew_28 rfl rfl rfl ?_
      refine I_getI 32 dX5_leadAnew_29 rfl cl5 (by decide) wfl_420 sameF_rfl (fun v29 => ?_)
      refine I_if_eq 52 35 dX5_leadAnew_32 rfl rfl (fun _ => ?_) (fun _ => ?_)
      · refine I_sub [(0, .ref x0), (1, .int x1)] [1, 2] rfl ?_
        exact I_X5_leadAnew_b52 hst x0 x1 _ ih
      · refine I_aload_n 1 36 dX5_leadAnew_35 rfl rfl rfl ?_
        refine I_getA 39 dX5_leadAnew_36 rfl cl6 (by decide) wfl_38 sameF_rfl (fun v36 => ?_)
        refine I_aload_n 0 40 dX5_leadAnew_39 rfl rfl rfl ?_
        refine I_aload_n 0 41 dX5_leadAnew_40 rfl rfl rfl ?_
        refine I_getI 44 dX5_leadAnew_41 rfl cl5 (by decide) wfl_329 sameF_rfl (fun v41 => ?_)
        refine I_aload_n 0 45 dX5_leadAnew_44 rfl rfl rfl ?_
        refine I_getI 48 dX5_leadAnew_45 rfl cl5 (by decide) wfl_330 sameF_rfl (fun v45 => ?_)
        refine I_callVi (As := [.ref v24, .int v41, .int v45]) (rest := []) 51 (C_X2_leadOn hst v36 v24 v41 v45) dX5_leadAnew_48 rfl cl3 rfl (by decide) (Nat.le_of_ble_eq_true rfl) wcd_325 win_34 wml_326 wim_327 wse_328 ⟨by decide, by decide, pd_X2_leadOn⟩ (fun x hx => by cases hx) (fun v48 => ?_)
        refine I_pop 52 dX5_leadAnew_51 rfl rfl ?_
        refine I_sub [(0, .ref x0), (1, .int x1)] [1, 2] rfl ?_
        exact I_X5_leadAnew_b52 hst x0 x1 _ ih
def f_X5_leadAnew (t0 mi : Nat) (x0 : Nat) : Mo Unit :=
    X5_leadAnew_L2 t0 mi x0 (rt ()) FU (0 : Int32)
set_option maxRecDepth 20000 in
theorem I_X5_leadAnew {l : Launch} {g : GX} (hst : l.stackTraces = false) (x0 : Nat) : I l g M_X5_leadAnew cvU 0 [(0, .ref x0)] [] (f_X5_leadAnew (gt0 g) (gmi g) x0) := by
  unfold f_X5_leadAnew
  refine I_iconst (0 : Int32) 1 dX5_leadAnew_0 rfl (by decide) ?_
  refine I_istore_n 2 [(1, .int (0 : Int32)), (0, .ref x0)] dX5_leadAnew_1 rfl rfl (by decide) rfl ?_
  refine I_sub [(0, .ref x0), (1, .int (0 : Int32))] [1, 0] rfl ?_
  refine I_X5_leadAnew_L2 hst x0 _ ?_ FU (0 : Int32)
  exact I_vret dX5_leadAnew_58 rfl
theorem C_X5_leadAnew {l : Launch} {g : GX} (hst : l.stackTraces = false) (x0 : Nat) : Cs l g M_X5_leadAnew cvU [.ref x0] (f_X5_leadAnew (gt0 g) (gmi g) x0) :=
  Cs_of_I [(0, .ref x0)] rfl (by decide) hst (Nat.le_of_ble_eq_true rfl) rfl (I_X5_leadAnew hst x0)
/-! LunchMarks.cancel(I)I -/
abbrev M_X5_cancel : MS := (yX5_cancel, cX5_cancel, 4, (some .int), [], 7, 168)
theorem pd_X5_cancel : (parseMethodDescriptor (mY M_X5_cancel).desc).map (fun d => d.parameters.length) = some 1 := by decide +kernel
def X5_cancel_b24 (t0 mi : Nat) : Mo Int32 :=
    rt (-1 : Int32)
set_option maxRecDepth 20000 in
theorem I_X5_cancel_b24 {l : Launch} {g : GX} (hst : l.stackTraces = false) : I l g M_X5_cancel cvI 24 [] [] (X5_cancel_b24 (gt0 g) (gmi g)) := by
  unfold X5_cancel_b24
  refine I_iconst (-1 : Int32) 25 dX5_cancel_24 rfl (by decide) ?_
  exact I_iret dX5_cancel_25 rfl
def f_X5_cancel (t0 mi : Nat) (x0 : Nat) (x1 : Int32) : Mo Int32 :=
    bnd (vc x0 6 (f_X5_trainOf t0 mi x0 x1)) fun v2 =>
    bnd (gI v2 4 5) fun v7 =>
    (if v7 = 0 then
    bnd (gI x0 6 4) fun v15 =>
    bnd (vc v2 4 (f_X3_beginsAfter t0 mi v2 v15)) fun v18 =>
    (if v18 = 0 then
    X5_cancel_b24 t0 mi
    else
    bnd (pZ v2 4 5 (1 : Int32)) fun _ =>
    bnd (vc x0 6 (f_X5_takeOffAll t0 mi x0 x1)) fun v33 =>
    bnd (vc x0 6 (f_X5_leadAnew t0 mi x0)) fun _ =>
    rt v33)
    else
    X5_cancel_b24 t0 mi)
set_option maxRecDepth 20000 in
theorem I_X5_cancel {l : Launch} {g : GX} (hst : l.stackTraces = false) (x0 : Nat) (x1 : Int32) : I l g M_X5_cancel cvI 0 [(0, .ref x0), (1, .int x1)] [] (f_X5_cancel (gt0 g) (gmi g) x0 x1) := by
  unfold f_X5_cancel
  refine I_aload_n 0 1 dX5_cancel_0 rfl rfl rfl ?_
  refine I_iload_n 1 2 dX5_cancel_1 rfl rfl rfl ?_
  refine I_callVa (As := [.int x1]) (rest := []) 5 (C_X5_trainOf hst x0 x1) dX5_cancel_2 rfl cl6 rfl (by decide) (Nat.le_of_ble_eq_true rfl) wcd_175 win_81 wml_176 wim_177 wse_178 ⟨by decide, by decide, pd_X5_trainOf⟩ (fun x hx => by cases hx) (fun v2 => ?_)
  refine I_astore_n 6 [(2, .ref v2), (0, .ref x0), (1, .int x1)] dX5_cancel_5 rfl rfl (by decide) rfl ?_
  refine I_aload_n 0 7 dX5_cancel_6 rfl rfl rfl ?_
  refine I_getI 10 dX5_cancel_7 rfl cl4 (by decide) wfl_425 sameF_rfl (fun v7 => ?_)
  refine I_if_ne 24 13 dX5_cancel_10 rfl rfl (fun _ => ?_) (fun _ => ?_)
  · refine I_aload_n 0 14 dX5_cancel_13 rfl rfl rfl ?_
    refine I_aload_n 1 15 dX5_cancel_14 rfl rfl rfl ?_
    refine I_getI 18 dX5_cancel_15 rfl cl6 (by decide) wfl_50 sameF_rfl (fun v15 => ?_)
    refine I_callVi (As := [.int v15]) (rest := []) 21 (C_X3_beginsAfter hst v2 v15) dX5_cancel_18 rfl cl4 rfl (by decide) (Nat.le_of_ble_eq_true rfl) wcd_426 win_137 wml_427 wim_428 wse_429 ⟨by decide, by decide, pd_X3_beginsAfter⟩ (fun x hx => by cases hx) (fun v18 => ?_)
    refine I_if_ne 26 24 dX5_cancel_21 rfl rfl (fun _ => ?_) (fun _ => ?_)
    · refine I_sub [] [] rfl ?_
      exact I_X5_cancel_b24 hst
    · refine I_aload_n 0 27 dX5_cancel_26 rfl rfl rfl ?_
      refine I_iconst (1 : Int32) 28 dX5_cancel_27 rfl (by decide) ?_
      refine I_putZ 31 dX5_cancel_28 rfl cl4 (by decide) wfl_425 sameF_rfl rfl rfl ?_
      refine I_aload_n 1 32 dX5_cancel_31 rfl rfl rfl ?_
      refine I_iload_n 2 33 dX5_cancel_32 rfl rfl rfl ?_
      refine I_callVi (As := [.int x1]) (rest := []) 36 (C_X5_takeOffAll hst x0 x1) dX5_cancel_33 rfl cl6 rfl (by decide) (Nat.le_of_ble_eq_true rfl) wcd_430 win_81 wml_431 wim_432 wse_433 ⟨by decide, by decide, pd_X5_takeOffAll⟩ (fun x hx => by cases hx) (fun v33 => ?_)
      refine I_istore_n 37 [(3, .int v33), (2, .ref v2), (0, .ref x0), (1, .int x1)] dX5_cancel_36 rfl rfl (by decide) rfl ?_
      refine I_aload_n 2 38 dX5_cancel_37 rfl rfl rfl ?_
      refine I_callVv (As := []) (rest := []) 41 (C_X5_leadAnew hst x0) dX5_cancel_38 rfl cl6 rfl (by decide) (Nat.le_of_ble_eq_true rfl) wcd_434 win_81 wml_435 wim_436 wse_437 ⟨by decide, by decide, pd_X5_leadAnew⟩ (fun x hx => by cases hx) (fun _ => ?_)
      refine I_iload_n 0 42 dX5_cancel_41 rfl rfl rfl ?_
      exact I_iret dX5_cancel_42 rfl
  · refine I_sub [] [] rfl ?_
    exact I_X5_cancel_b24 hst
theorem C_X5_cancel {l : Launch} {g : GX} (hst : l.stackTraces = false) (x0 : Nat) (x1 : Int32) : Cs l g M_X5_cancel cvI [.ref x0, .int x1] (f_X5_cancel (gt0 g) (gmi g) x0 x1) :=
  Cs_of_I [(0, .ref x0), (1, .int x1)] rfl (by decide) hst (Nat.le_of_ble_eq_true rfl) rfl (I_X5_cancel hst x0 x1)
/-! LunchMarksLaw.cancel(LLunchMarks;I[J)I -/
abbrev M_L_cancel : MS := (yL_cancel, cL_cancel, 4, (some .int), tableOf [(0, 9, 12, 13)], 8, 191)
theorem pd_L_cancel : (parseMethodDescriptor (mY M_L_cancel).desc).map (fun d => d.parameters.length) = some 3 := by decide +kernel
def f_L_cancel (t0 mi : Nat) (x0 : Nat) (x1 : Int32) (x2 : Nat) : Mo Int32 :=
    ctc (vc x0 6 (f_X5_cancel t0 mi x0 x1)) (fun v4 =>
    bnd (stL x2 (0 : Int32) v4.toInt64) fun _ =>
    rt (0 : Int32)) (fun E =>
    (if E = "java/util/NoSuchElementException" then
    rt (1 : Int32)
    else
    flr))
set_option maxRecDepth 20000 in
theorem I_L_cancel {l : Launch} {g : GX} (hst : l.stackTraces = false) (x0 : Nat) (x1 : Int32) (x2 : Nat) : I l g M_L_cancel cvI 0 [(0, .ref x0), (1, .int x1), (2, .ref x2)] [] (f_L_cancel (gt0 g) (gmi g) x0 x1 x2) := by
  unfold f_L_cancel
  refine I_aload_n 2 1 dL_cancel_0 rfl rfl rfl ?_
  refine I_iconst (0 : Int32) 2 dL_cancel_1 rfl (by decide) ?_
  refine I_aload_n 0 3 dL_cancel_2 rfl rfl rfl ?_
  refine I_iload_n 1 4 dL_cancel_3 rfl rfl rfl ?_
  refine I_callVc1 (As := [.int x1]) (rest := [.int (0 : Int32), .ref x2]) 7 (C_X5_cancel hst x0 x1) dL_cancel_4 rfl cl6 rfl (by decide) (Nat.le_of_ble_eq_true rfl) wcd_438 win_81 wml_439 wim_440 wse_441 ⟨by decide, by decide, pd_X5_cancel⟩ rfl (by decide) (by decide) wcl_198 xc_N (fun v4 => ?_) (fun q12 => ?_)
  · refine I_i2l 8 dL_cancel_7 rfl ?_
    refine I_last 9 dL_cancel_8 rfl ?_
    refine I_goto 15 dL_cancel_9 rfl ?_
    refine I_iconst (0 : Int32) 16 dL_cancel_15 rfl (by decide) ?_
    exact I_iret dL_cancel_16 rfl
  · refine I_astore_n 13 [(3, .ref q12), (0, .ref x0), (1, .int x1), (2, .ref x2)] dL_cancel_12 rfl rfl (by decide) rfl ?_
    refine I_iconst (1 : Int32) 14 dL_cancel_13 rfl (by decide) ?_
    exact I_iret dL_cancel_14 rfl
theorem C_L_cancel {l : Launch} {g : GX} (hst : l.stackTraces = false) (x0 : Nat) (x1 : Int32) (x2 : Nat) : CsW l g M_L_cancel [(0, 9, 12, 13)] cvI [.ref x0, .int x1, .ref x2] (f_L_cancel (gt0 g) (gmi g) x0 x1 x2) :=
  CsW_of_I [(0, .ref x0), (1, .int x1), (2, .ref x2)] rfl (by decide) hst (Nat.le_of_ble_eq_true rfl) rfl (I_L_cancel hst x0 x1 x2)
/-! LunchMarksModel.firstOn(II)I -/
abbrev M_X6_firstOn : MS := (yX6_firstOn, cX6_firstOn, 5, (some .int), [], 1, 21)
theorem pd_X6_firstOn : (parseMethodDescriptor (mY M_X6_firstOn).desc).map (fun d => d.parameters.length) = some 2 := by decide +kernel
def X6_firstOn_L9 (t0 mi : Nat) (x0 : Nat) (x2 : Int32) (x3 : Int32) (kx : Mo Int32) : Nat → Int32 → Mo Int32
  | 0, _ => flr
  | n + 1, x4 =>
    bnd (gA' x0 7 24) fun v12 =>
    bnd (ldK 0 v12 x3) fun v16 =>
    (if v16 ≤ x4 then
    kx
    else
    bnd (gA' x0 7 27) fun v21 =>
    bnd (f_X6_legAt t0 mi x3 x4) fun v27 =>
    bnd (ldK 0 v21 v27) fun v30 =>
    (if v30 = x2 then
    rt x4
    else
    (X6_firstOn_L9 t0 mi x0 x2 x3 kx n) (x4 + 1)))
set_option maxRecDepth 20000 in
theorem I_X6_firstOn_L9 {l : Launch} {g : GX} (hst : l.stackTraces = false) (x0 : Nat) (x2 : Int32) (x3 : Int32) (kx : Mo Int32) (hkx : I l g M_X6_firstOn cvI 44 [] [] kx) : ∀ (n : Nat) (x4 : Int32), I l g M_X6_firstOn cvI 9 [(0, .ref x0), (2, .int x2), (3, .int x3), (4, .int x4)] [] (X6_firstOn_L9 (gt0 g) (gmi g) x0 x2 x3 kx n x4) := by
  intro n
  induction n with
  | zero => intro x4; rw [X6_firstOn_L9]; exact I_flr
  | succ n ih =>
    intro x4; rw [X6_firstOn_L9]
    refine I_iload 3 11 dX6_firstOn_9 rfl rfl ?_
    refine I_aload_n 0 12 dX6_firstOn_11 rfl rfl rfl ?_
    refine I_getA 15 dX6_firstOn_12 rfl cl7 (by decide) wfl_71 sameF_rfl (fun v12 => ?_)
    refine I_iload_n 2 16 dX6_firstOn_15 rfl rfl rfl ?_
    refine I_iald 17 dX6_firstOn_16 rfl (fun v16 => ?_)
    refine I_icmp_ge 44 20 dX6_firstOn_17 rfl rfl (fun _ => ?_) (fun _ => ?_)
    · refine I_sub [] [] rfl ?_
      exact hkx
    · refine I_aload_n 0 21 dX6_firstOn_20 rfl rfl rfl ?_
      refine I_getA 24 dX6_firstOn_21 rfl cl7 (by decide) wfl_74 sameF_rfl (fun v21 => ?_)
      refine I_iload_n 2 25 dX6_firstOn_24 rfl rfl rfl ?_
      refine I_iload 3 27 dX6_firstOn_25 rfl rfl ?_
      refine I_callSi (As := [.int x3, .int x4]) (rest := [.ref v21]) 30 (C_X6_legAt hst x3 x4) dX6_firstOn_27 rfl rfl (by decide) (Nat.le_of_ble_eq_true rfl) wcd_374 win_200 wml_375 wst_376 ⟨by decide, by decide, pd_X6_legAt⟩ (fun x hx => by cases hx) (fun v27 => ?_)
      refine I_iald 31 dX6_firstOn_30 rfl (fun v30 => ?_)
      refine I_iload_n 1 32 dX6_firstOn_31 rfl rfl rfl ?_
      refine I_icmp_ne 38 35 dX6_firstOn_32 rfl rfl (fun _ => ?_) (fun _ => ?_)
      · refine I_iload 3 37 dX6_firstOn_35 rfl rfl ?_
        exact I_iret dX6_firstOn_37 rfl
      · refine I_iinc 41 (x4 + 1) [(4, .int (x4 + 1)), (0, .ref x0), (2, .int x2), (3, .int x3)] 3 dX6_firstOn_38 rfl rfl rfl (by decide) rfl ?_
        refine I_goto 9 dX6_firstOn_41 rfl ?_
        refine I_sub [(0, .ref x0), (2, .int x2), (3, .int x3), (4, .int (x4 + 1))] [1, 2, 3, 0] rfl ?_
        exact ih (x4 + 1)
def f_X6_firstOn (t0 mi : Nat) (x0 : Nat) (x1 : Int32) (x2 : Int32) : Mo Int32 :=
    bnd (vc x0 7 (f_X6_wayOf t0 mi x0 x1)) fun v2 =>
    X6_firstOn_L9 t0 mi x0 x2 v2 (rt (-1 : Int32)) FU (0 : Int32)
set_option maxRecDepth 20000 in
theorem I_X6_firstOn {l : Launch} {g : GX} (hst : l.stackTraces = false) (x0 : Nat) (x1 : Int32) (x2 : Int32) : I l g M_X6_firstOn cvI 0 [(0, .ref x0), (1, .int x1), (2, .int x2)] [] (f_X6_firstOn (gt0 g) (gmi g) x0 x1 x2) := by
  unfold f_X6_firstOn
  refine I_aload_n 0 1 dX6_firstOn_0 rfl rfl rfl ?_
  refine I_iload_n 1 2 dX6_firstOn_1 rfl rfl rfl ?_
  refine I_callVi (As := [.int x1]) (rest := []) 5 (C_X6_wayOf hst x0 x1) dX6_firstOn_2 rfl cl7 rfl (by decide) (Nat.le_of_ble_eq_true rfl) wcd_362 win_200 wml_363 wim_364 wse_365 ⟨by decide, by decide, pd_X6_wayOf⟩ (fun x hx => by cases hx) (fun v2 => ?_)
  refine I_istore_n 6 [(3, .int v2), (0, .ref x0), (1, .int x1), (2, .int x2)] dX6_firstOn_5 rfl rfl (by decide) rfl ?_
  refine I_iconst (0 : Int32) 7 dX6_firstOn_6 rfl (by decide) ?_
  refine I_istore 9 [(4, .int (0 : Int32)), (3, .int v2), (0, .ref x0), (1, .int x1), (2, .int x2)] dX6_firstOn_7 rfl (by decide) rfl ?_
  refine I_sub [(0, .ref x0), (2, .int x2), (3, .int v2), (4, .int (0 : Int32))] [2, 4, 1, 0] rfl ?_
  refine I_X6_firstOn_L9 hst x0 x2 v2 _ ?_ FU (0 : Int32)
  refine I_iconst (-1 : Int32) 45 dX6_firstOn_44 rfl (by decide) ?_
  exact I_iret dX6_firstOn_45 rfl
theorem C_X6_firstOn {l : Launch} {g : GX} (hst : l.stackTraces = false) (x0 : Nat) (x1 : Int32) (x2 : Int32) : Cs l g M_X6_firstOn cvI [.ref x0, .int x1, .int x2] (f_X6_firstOn (gt0 g) (gmi g) x0 x1 x2) :=
  Cs_of_I [(0, .ref x0), (1, .int x1), (2, .int x2)] rfl (by decide) hst (Nat.le_of_ble_eq_true rfl) rfl (I_X6_firstOn hst x0 x1 x2)
/-! LunchMarksModel.behind(I)I -/
abbrev M_X6_behind : MS := (yX6_behind, cX6_behind, 3, (some .int), [], 1, 21)
theorem pd_X6_behind : (parseMethodDescriptor (mY M_X6_behind).desc).map (fun d => d.parameters.length) = some 1 := by decide +kernel
def f_X6_behind (t0 mi : Nat) (x0 : Nat) (x1 : Int32) : Mo Int32 :=
    bnd (gA' x0 7 27) fun v1 =>
    bnd (ldK 0 v1 x1) fun v5 =>
    bnd (gA' x0 7 29) fun v7 =>
    bnd (ldK 0 v7 x1) fun v11 =>
    bnd (f_X6_node t0 mi v5 v11) fun v12 =>
    bnd (gA' x0 7 10) fun v17 =>
    bnd (ldK 0 v17 v12) fun v21 =>
    bnd (gA' x0 7 6) fun v23 =>
    bnd (gA' x0 7 9) fun v27 =>
    bnd (ldK 0 v27 v12) fun v31 =>
    bnd (ldK 0 v23 v31) fun v32 =>
    rt (v21 + v32)
set_option maxRecDepth 20000 in
theorem I_X6_behind {l : Launch} {g : GX} (hst : l.stackTraces = false) (x0 : Nat) (x1 : Int32) : I l g M_X6_behind cvI 0 [(0, .ref x0), (1, .int x1)] [] (f_X6_behind (gt0 g) (gmi g) x0 x1) := by
  unfold f_X6_behind
  refine I_aload_n 0 1 dX6_behind_0 rfl rfl rfl ?_
  refine I_getA 4 dX6_behind_1 rfl cl7 (by decide) wfl_74 sameF_rfl (fun v1 => ?_)
  refine I_iload_n 1 5 dX6_behind_4 rfl rfl rfl ?_
  refine I_iald 6 dX6_behind_5 rfl (fun v5 => ?_)
  refine I_aload_n 0 7 dX6_behind_6 rfl rfl rfl ?_
  refine I_getA 10 dX6_behind_7 rfl cl7 (by decide) wfl_76 sameF_rfl (fun v7 => ?_)
  refine I_iload_n 1 11 dX6_behind_10 rfl rfl rfl ?_
  refine I_iald 12 dX6_behind_11 rfl (fun v11 => ?_)
  refine I_callSi (As := [.int v5, .int v11]) (rest := []) 15 (C_X6_node hst v5 v11) dX6_behind_12 rfl rfl (by decide) (Nat.le_of_ble_eq_true rfl) wcd_208 win_200 wml_209 wst_210 ⟨by decide, by decide, pd_X6_node⟩ (fun x hx => by cases hx) (fun v12 => ?_)
  refine I_istore_n 16 [(2, .int v12), (0, .ref x0), (1, .int x1)] dX6_behind_15 rfl rfl (by decide) rfl ?_
  refine I_aload_n 1 17 dX6_behind_16 rfl rfl rfl ?_
  refine I_getA 20 dX6_behind_17 rfl cl7 (by decide) wfl_56 sameF_rfl (fun v17 => ?_)
  refine I_iload_n 0 21 dX6_behind_20 rfl rfl rfl ?_
  refine I_iald 22 dX6_behind_21 rfl (fun v21 => ?_)
  refine I_aload_n 1 23 dX6_behind_22 rfl rfl rfl ?_
  refine I_getA 26 dX6_behind_23 rfl cl7 (by decide) wfl_52 sameF_rfl (fun v23 => ?_)
  refine I_aload_n 1 27 dX6_behind_26 rfl rfl rfl ?_
  refine I_getA 30 dX6_behind_27 rfl cl7 (by decide) wfl_55 sameF_rfl (fun v27 => ?_)
  refine I_iload_n 0 31 dX6_behind_30 rfl rfl rfl ?_
  refine I_iald 32 dX6_behind_31 rfl (fun v31 => ?_)
  refine I_iald 33 dX6_behind_32 rfl (fun v32 => ?_)
  refine I_iadd 34 dX6_behind_33 rfl ?_
  exact I_iret dX6_behind_34 rfl
theorem C_X6_behind {l : Launch} {g : GX} (hst : l.stackTraces = false) (x0 : Nat) (x1 : Int32) : Cs l g M_X6_behind cvI [.ref x0, .int x1] (f_X6_behind (gt0 g) (gmi g) x0 x1) :=
  Cs_of_I [(0, .ref x0), (1, .int x1)] rfl (by decide) hst (Nat.le_of_ble_eq_true rfl) rfl (I_X6_behind hst x0 x1)
/-! LunchMarksModel.there(II)I -/
abbrev M_X6_there : MS := (yX6_there, cX6_there, 3, (some .int), [], 2, 43)
theorem pd_X6_there : (parseMethodDescriptor (mY M_X6_there).desc).map (fun d => d.parameters.length) = some 2 := by decide +kernel
def X6_there_b33 (t0 mi : Nat) (s0 : Int32) : Mo Int32 :=
    rt s0
set_option maxRecDepth 20000 in
theorem I_X6_there_b33 {l : Launch} {g : GX} (hst : l.stackTraces = false) (s0 : Int32) : I l g M_X6_there cvI 33 [] [.int s0] (X6_there_b33 (gt0 g) (gmi g) s0) := by
  unfold X6_there_b33
  exact I_iret dX6_there_33 rfl
def f_X6_there (t0 mi : Nat) (x0 : Nat) (x1 : Int32) (x2 : Int32) : Mo Int32 :=
    bnd (gA' x0 7 24) fun v1 =>
    bnd (ldK 0 v1 x1) fun v5 =>
    (if v5 = 0 then
    bnd (vc x0 7 (f_X6_sortedAt t0 mi x0 x2)) fun v11 =>
    X6_there_b33 t0 mi v11
    else
    bnd (gA' x0 7 24) fun v20 =>
    bnd (ldK 0 v20 x1) fun v24 =>
    bnd (f_X6_legAt t0 mi x1 (v24 - (1 : Int32))) fun v27 =>
    bnd (vc x0 7 (f_X6_behind t0 mi x0 v27)) fun v30 =>
    X6_there_b33 t0 mi v30)
set_option maxRecDepth 20000 in
theorem I_X6_there {l : Launch} {g : GX} (hst : l.stackTraces = false) (x0 : Nat) (x1 : Int32) (x2 : Int32) : I l g M_X6_there cvI 0 [(0, .ref x0), (1, .int x1), (2, .int x2)] [] (f_X6_there (gt0 g) (gmi g) x0 x1 x2) := by
  unfold f_X6_there
  refine I_aload_n 0 1 dX6_there_0 rfl rfl rfl ?_
  refine I_getA 4 dX6_there_1 rfl cl7 (by decide) wfl_71 sameF_rfl (fun v1 => ?_)
  refine I_iload_n 1 5 dX6_there_4 rfl rfl rfl ?_
  refine I_iald 6 dX6_there_5 rfl (fun v5 => ?_)
  refine I_if_ne 17 9 dX6_there_6 rfl rfl (fun _ => ?_) (fun _ => ?_)
  · refine I_aload_n 0 10 dX6_there_9 rfl rfl rfl ?_
    refine I_iload_n 2 11 dX6_there_10 rfl rfl rfl ?_
    refine I_callVi (As := [.int x2]) (rest := []) 14 (C_X6_sortedAt hst x0 x2) dX6_there_11 rfl cl7 rfl (by decide) (Nat.le_of_ble_eq_true rfl) wcd_394 win_200 wml_395 wim_396 wse_397 ⟨by decide, by decide, pd_X6_sortedAt⟩ (fun x hx => by cases hx) (fun v11 => ?_)
    refine I_goto 33 dX6_there_14 rfl ?_
    refine I_sub [] [] rfl ?_
    exact I_X6_there_b33 hst v11
  · refine I_aload_n 0 18 dX6_there_17 rfl rfl rfl ?_
    refine I_iload_n 1 19 dX6_there_18 rfl rfl rfl ?_
    refine I_aload_n 0 20 dX6_there_19 rfl rfl rfl ?_
    refine I_getA 23 dX6_there_20 rfl cl7 (by decide) wfl_71 sameF_rfl (fun v20 => ?_)
    refine I_iload_n 1 24 dX6_there_23 rfl rfl rfl ?_
    refine I_iald 25 dX6_there_24 rfl (fun v24 => ?_)
    refine I_iconst (1 : Int32) 26 dX6_there_25 rfl (by decide) ?_
    refine I_isub 27 dX6_there_26 rfl ?_
    refine I_callSi (As := [.int x1, .int (v24 - (1 : Int32))]) (rest := [.ref x0]) 30 (C_X6_legAt hst x1 (v24 - (1 : Int32))) dX6_there_27 rfl rfl (by decide) (Nat.le_of_ble_eq_true rfl) wcd_374 win_200 wml_375 wst_376 ⟨by decide, by decide, pd_X6_legAt⟩ (fun x hx => by cases hx) (fun v27 => ?_)
    refine I_callVi (As := [.int v27]) (rest := []) 33 (C_X6_behind hst x0 v27) dX6_there_30 rfl cl7 rfl (by decide) (Nat.le_of_ble_eq_true rfl) wcd_442 win_200 wml_443 wim_444 wse_445 ⟨by decide, by decide, pd_X6_behind⟩ (fun x hx => by cases hx) (fun v30 => ?_)
    refine I_sub [] [] rfl ?_
    exact I_X6_there_b33 hst v30
theorem C_X6_there {l : Launch} {g : GX} (hst : l.stackTraces = false) (x0 : Nat) (x1 : Int32) (x2 : Int32) : Cs l g M_X6_there cvI [.ref x0, .int x1, .int x2] (f_X6_there (gt0 g) (gmi g) x0 x1 x2) :=
  Cs_of_I [(0, .ref x0), (1, .int x1), (2, .int x2)] rfl (by decide) hst (Nat.le_of_ble_eq_true rfl) rfl (I_X6_there hst x0 x1 x2)
/-! LunchMarksModel.cancel(I)I -/
abbrev M_X6_cancel : MS := (yX6_cancel, cX6_cancel, 8, (some .int), [], 7, 179)
theorem pd_X6_cancel : (parseMethodDescriptor (mY M_X6_cancel).desc).map (fun d => d.parameters.length) = some 1 := by decide +kernel
def X6_cancel_b53 (t0 mi : Nat) : Mo Int32 :=
    rt (-1 : Int32)
set_option maxRecDepth 20000 in
theorem I_X6_cancel_b53 {l : Launch} {g : GX} (hst : l.stackTraces = false) : I l g M_X6_cancel cvI 53 [] [] (X6_cancel_b53 (gt0 g) (gmi g)) := by
  unfold X6_cancel_b53
  refine I_iconst (-1 : Int32) 54 dX6_cancel_53 rfl (by decide) ?_
  exact I_iret dX6_cancel_54 rfl
def X6_cancel_b144 (t0 mi : Nat) (kh66 : Int32 → Int32 → Mo Int32) (x0 : Nat) (x1 : Int32) (x2 : Int32) (x3 : Int32) : Mo Int32 :=
    kh66 x2 (x3 + 1)
set_option maxRecDepth 20000 in
theorem I_X6_cancel_b144 {l : Launch} {g : GX} (hst : l.stackTraces = false) (x0 : Nat) (x1 : Int32) (x2 : Int32) (x3 : Int32) (kh66 : Int32 → Int32 → Mo Int32) (hkh66 : ∀ (z2 : Int32) (z3 : Int32), I l g M_X6_cancel cvI 66 [(0, .ref x0), (1, .int x1), (2, .int z2), (3, .int z3)] [] (kh66 z2 z3)) : I l g M_X6_cancel cvI 144 [(0, .ref x0), (1, .int x1), (2, .int x2), (3, .int x3)] [] (X6_cancel_b144 (gt0 g) (gmi g) kh66 x0 x1 x2 x3) := by
  unfold X6_cancel_b144
  refine I_iinc 147 (x3 + 1) [(3, .int (x3 + 1)), (0, .ref x0), (1, .int x1), (2, .int x2)] 3 dX6_cancel_144 rfl rfl rfl (by decide) rfl ?_
  refine I_goto 66 dX6_cancel_147 rfl ?_
  refine I_sub [(0, .ref x0), (1, .int x1), (2, .int x2), (3, .int (x3 + 1))] [1, 2, 3, 0] rfl ?_
  exact hkh66 x2 (x3 + 1)
def X6_cancel_b98 (t0 mi : Nat) (kh66 : Int32 → Int32 → Mo Int32) (x0 : Nat) (x1 : Int32) (x2 : Int32) (x3 : Int32) (x4 : Int32) (s0 : Int32) (s1 : Int32) (s2 : Nat) : Mo Int32 :=
    bnd (stZ s2 s1 s0) fun _ =>
    (if x4 = (-1 : Int32) then
    X6_cancel_b144 t0 mi kh66 x0 x1 x2 x3
    else
    bnd (vc x0 7 (f_X6_wayOf t0 mi x0 x3)) fun v110 =>
    bnd (vc x0 7 (f_X6_load0 t0 mi x0 v110 x4 (-1 : Int32))) fun _ =>
    bnd (gA' x0 7 24) fun v125 =>
    bnd (stK 0 v125 v110 x4) fun _ =>
    bnd (gA' x0 7 23) fun v134 =>
    bnd (stZ v134 v110 (0 : Int32)) fun _ =>
    X6_cancel_b144 t0 mi kh66 x0 x1 (x2 + 1) x3)
set_option maxRecDepth 20000 in
theorem I_X6_cancel_b98 {l : Launch} {g : GX} (hst : l.stackTraces = false) (x0 : Nat) (x1 : Int32) (x2 : Int32) (x3 : Int32) (x4 : Int32) (s0 : Int32) (s1 : Int32) (s2 : Nat) (kh66 : Int32 → Int32 → Mo Int32) (hkh66 : ∀ (z2 : Int32) (z3 : Int32), I l g M_X6_cancel cvI 66 [(0, .ref x0), (1, .int x1), (2, .int z2), (3, .int z3)] [] (kh66 z2 z3)) : I l g M_X6_cancel cvI 98 [(0, .ref x0), (1, .int x1), (2, .int x2), (3, .int x3), (4, .int x4)] [.int s0, .int s1, .ref s2] (X6_cancel_b98 (gt0 g) (gmi g) kh66 x0 x1 x2 x3 x4 s0 s1 s2) := by
  unfold X6_cancel_b98
  refine I_zast 99 dX6_cancel_98 rfl ?_
  refine I_iload 4 101 dX6_cancel_99 rfl rfl ?_
  refine I_iconst (-1 : Int32) 102 dX6_cancel_101 rfl (by decide) ?_
  refine I_icmp_ne 108 105 dX6_cancel_102 rfl rfl (fun _ => ?_) (fun _ => ?_)
  · refine I_goto 144 dX6_cancel_105 rfl ?_
    refine I_sub [(0, .ref x0), (1, .int x1), (2, .int x2), (3, .int x3)] [0, 1, 2, 3] rfl ?_
    exact I_X6_cancel_b144 hst x0 x1 x2 x3 _ hkh66
  · refine I_aload_n 0 109 dX6_cancel_108 rfl rfl rfl ?_
    refine I_iload_n 3 110 dX6_cancel_109 rfl rfl rfl ?_
    refine I_callVi (As := [.int x3]) (rest := []) 113 (C_X6_wayOf hst x0 x3) dX6_cancel_110 rfl cl7 rfl (by decide) (Nat.le_of_ble_eq_true rfl) wcd_362 win_200 wml_363 wim_364 wse_365 ⟨by decide, by decide, pd_X6_wayOf⟩ (fun x hx => by cases hx) (fun v110 => ?_)
    refine I_istore 115 [(5, .int v110), (0, .ref x0), (1, .int x1), (2, .int x2), (3, .int x3), (4, .int x4)] dX6_cancel_113 rfl (by decide) rfl ?_
    refine I_aload_n 1 116 dX6_cancel_115 rfl rfl rfl ?_
    refine I_iload 0 118 dX6_cancel_116 rfl rfl ?_
    refine I_iload 5 120 dX6_cancel_118 rfl rfl ?_
    refine I_iconst (-1 : Int32) 121 dX6_cancel_120 rfl (by decide) ?_
    refine I_callVv (As := [.int v110, .int x4, .int (-1 : Int32)]) (rest := []) 124 (C_X6_load0 hst x0 v110 x4 (-1 : Int32)) dX6_cancel_121 rfl cl7 rfl (by decide) (Nat.le_of_ble_eq_true rfl) wcd_381 win_200 wml_382 wim_383 wse_384 ⟨by decide, by decide, pd_X6_load0⟩ (fun x hx => by cases hx) (fun _ => ?_)
    refine I_aload_n 1 125 dX6_cancel_124 rfl rfl rfl ?_
    refine I_getA 128 dX6_cancel_125 rfl cl7 (by decide) wfl_71 sameF_rfl (fun v125 => ?_)
    refine I_iload 0 130 dX6_cancel_128 rfl rfl ?_
    refine I_iload 5 132 dX6_cancel_130 rfl rfl ?_
    refine I_iast 133 dX6_cancel_132 rfl ?_
    refine I_aload_n 1 134 dX6_cancel_133 rfl rfl rfl ?_
    refine I_getA 137 dX6_cancel_134 rfl cl7 (by decide) wfl_70 sameF_rfl (fun v134 => ?_)
    refine I_iload 0 139 dX6_cancel_137 rfl rfl ?_
    refine I_iconst (0 : Int32) 140 dX6_cancel_139 rfl (by decide) ?_
    refine I_zast 141 dX6_cancel_140 rfl ?_
    refine I_iinc 144 (x2 + 1) [(2, .int (x2 + 1)), (5, .int v110), (0, .ref x0), (1, .int x1), (3, .int x3), (4, .int x4)] 3 dX6_cancel_141 rfl rfl rfl (by decide) rfl ?_
    refine I_sub [(0, .ref x0), (1, .int x1), (2, .int (x2 + 1)), (3, .int x3)] [2, 3, 0, 4] rfl ?_
    exact I_X6_cancel_b144 hst x0 x1 (x2 + 1) x3 _ hkh66
def X6_cancel_L66 (t0 mi : Nat) (x0 : Nat) (x1 : Int32) (kx : Int32 → Mo Int32) : Nat → Int32 → Int32 → Mo Int32
  | 0, _, _ => flr
  | n + 1, x2, x3 =>
    bnd (gI x0 7 4) fun v68 =>
    (if v68 ≤ x3 then
    kx x2
    else
    bnd (vc x0 7 (f_X6_firstOn t0 mi x0 x3 x1)) fun v77 =>
    bnd (gA' x0 7 37) fun v83 =>
    (if v77 = (-1 : Int32) then
    X6_cancel_b98 t0 mi (X6_cancel_L66 t0 mi x0 x1 kx n) x0 x1 x2 x3 v77 (0 : Int32) x3 v83
    else
    X6_cancel_b98 t0 mi (X6_cancel_L66 t0 mi x0 x1 kx n) x0 x1 x2 x3 v77 (1 : Int32) x3 v83))
set_option maxRecDepth 20000 in
theorem I_X6_cancel_L66 {l : Launch} {g : GX} (hst : l.stackTraces = false) (x0 : Nat) (x1 : Int32) (kx : Int32 → Mo Int32) (hkx : ∀ (z2 : Int32), I l g M_X6_cancel cvI 150 [(0, .ref x0), (2, .int z2)] [] (kx z2)) : ∀ (n : Nat) (x2 : Int32) (x3 : Int32), I l g M_X6_cancel cvI 66 [(0, .ref x0), (1, .int x1), (2, .int x2), (3, .int x3)] [] (X6_cancel_L66 (gt0 g) (gmi g) x0 x1 kx n x2 x3) := by
  intro n
  induction n with
  | zero => intro x2 x3; rw [X6_cancel_L66]; exact I_flr
  | succ n ih =>
    intro x2 x3; rw [X6_cancel_L66]
    refine I_iload_n 3 67 dX6_cancel_66 rfl rfl rfl ?_
    refine I_aload_n 0 68 dX6_cancel_67 rfl rfl rfl ?_
    refine I_getI 71 dX6_cancel_68 rfl cl7 (by decide) wfl_241 sameF_rfl (fun v68 => ?_)
    refine I_icmp_ge 150 74 dX6_cancel_71 rfl rfl (fun _ => ?_) (fun _ => ?_)
    · refine I_sub [(0, .ref x0), (2, .int x2)] [0, 2] rfl ?_
      exact hkx x2
    · refine I_aload_n 0 75 dX6_cancel_74 rfl rfl rfl ?_
      refine I_iload_n 3 76 dX6_cancel_75 rfl rfl rfl ?_
      refine I_iload_n 1 77 dX6_cancel_76 rfl rfl rfl ?_
      refine I_callVi (As := [.int x3, .int x1]) (rest := []) 80 (C_X6_firstOn hst x0 x3 x1) dX6_cancel_77 rfl cl7 rfl (by decide) (Nat.le_of_ble_eq_true rfl) wcd_446 win_200 wml_447 wim_448 wse_449 ⟨by decide, by decide, pd_X6_firstOn⟩ (fun x hx => by cases hx) (fun v77 => ?_)
      refine I_istore 82 [(4, .int v77), (0, .ref x0), (1, .int x1), (2, .int x2), (3, .int x3)] dX6_cancel_80 rfl (by decide) rfl ?_
      refine I_aload_n 1 83 dX6_cancel_82 rfl rfl rfl ?_
      refine I_getA 86 dX6_cancel_83 rfl cl7 (by decide) wfl_79 sameF_rfl (fun v83 => ?_)
      refine I_iload_n 4 87 dX6_cancel_86 rfl rfl rfl ?_
      refine I_iload 0 89 dX6_cancel_87 rfl rfl ?_
      refine I_iconst (-1 : Int32) 90 dX6_cancel_89 rfl (by decide) ?_
      refine I_icmp_eq 97 93 dX6_cancel_90 rfl rfl (fun _ => ?_) (fun _ => ?_)
      · refine I_iconst (0 : Int32) 98 dX6_cancel_97 rfl (by decide) ?_
        refine I_sub [(0, .ref x0), (1, .int x1), (2, .int x2), (3, .int x3), (4, .int v77)] [1, 2, 3, 4, 0] rfl ?_
        exact I_X6_cancel_b98 hst x0 x1 x2 x3 v77 (0 : Int32) x3 v83 _ ih
      · refine I_iconst (1 : Int32) 94 dX6_cancel_93 rfl (by decide) ?_
        refine I_goto 98 dX6_cancel_94 rfl ?_
        refine I_sub [(0, .ref x0), (1, .int x1), (2, .int x2), (3, .int x3), (4, .int v77)] [1, 2, 3, 4, 0] rfl ?_
        exact I_X6_cancel_b98 hst x0 x1 x2 x3 v77 (1 : Int32) x3 v83 _ ih
def X6_cancel_b286 (t0 mi : Nat) (kh152 : Int32 → Mo Int32) (x0 : Nat) (x2 : Int32) (x3 : Int32) : Mo Int32 :=
    kh152 (x3 + 1)
set_option maxRecDepth 20000 in
theorem I_X6_cancel_b286 {l : Launch} {g : GX} (hst : l.stackTraces = false) (x0 : Nat) (x2 : Int32) (x3 : Int32) (kh152 : Int32 → Mo Int32) (hkh152 : ∀ (z3 : Int32), I l g M_X6_cancel cvI 152 [(0, .ref x0), (2, .int x2), (3, .int z3)] [] (kh152 z3)) : I l g M_X6_cancel cvI 286 [(0, .ref x0), (2, .int x2), (3, .int x3)] [] (X6_cancel_b286 (gt0 g) (gmi g) kh152 x0 x2 x3) := by
  unfold X6_cancel_b286
  refine I_iinc 289 (x3 + 1) [(3, .int (x3 + 1)), (0, .ref x0), (2, .int x2)] 2 dX6_cancel_286 rfl rfl rfl (by decide) rfl ?_
  refine I_goto 152 dX6_cancel_289 rfl ?_
  refine I_sub [(0, .ref x0), (2, .int x2), (3, .int (x3 + 1))] [1, 2, 0] rfl ?_
  exact hkh152 (x3 + 1)
def X6_cancel_b235 (t0 mi : Nat) (kh152 : Int32 → Mo Int32) (x0 : Nat) (x2 : Int32) (x3 : Int32) (x4 : Int32) (s0 : Int32) : Mo Int32 :=
    bnd (gI x0 7 1) fun v238 =>
    bnd (vc x0 7 (f_X6_there t0 mi x0 x4 x3)) fun v245 =>
    bnd (vc x0 7 (f_X6_leadOn t0 mi x0 x3 s0 (mx v238 v245))) fun v259 =>
    (if v259 = 0 then
    bnd (gA' x0 7 25) fun v269 =>
    bnd (stK 0 v269 x4 s0) fun _ =>
    bnd (gA' x0 7 26) fun v278 =>
    bnd (stK 0 v278 x4 (mx v238 v245)) fun _ =>
    X6_cancel_b286 t0 mi kh152 x0 x2 x3
    else
    X6_cancel_b286 t0 mi kh152 x0 x2 x3)
set_option maxRecDepth 20000 in
theorem I_X6_cancel_b235 {l : Launch} {g : GX} (hst : l.stackTraces = false) (x0 : Nat) (x2 : Int32) (x3 : Int32) (x4 : Int32) (s0 : Int32) (kh152 : Int32 → Mo Int32) (hkh152 : ∀ (z3 : Int32), I l g M_X6_cancel cvI 152 [(0, .ref x0), (2, .int x2), (3, .int z3)] [] (kh152 z3)) : I l g M_X6_cancel cvI 235 [(0, .ref x0), (2, .int x2), (3, .int x3), (4, .int x4)] [.int s0] (X6_cancel_b235 (gt0 g) (gmi g) kh152 x0 x2 x3 x4 s0) := by
  unfold X6_cancel_b235
  refine I_istore 237 [(6, .int s0), (0, .ref x0), (2, .int x2), (3, .int x3), (4, .int x4)] dX6_cancel_235 rfl (by decide) rfl ?_
  refine I_aload_n 1 238 dX6_cancel_237 rfl rfl rfl ?_
  refine I_getI 241 dX6_cancel_238 rfl cl7 (by decide) wfl_393 sameF_rfl (fun v238 => ?_)
  refine I_aload_n 1 242 dX6_cancel_241 rfl rfl rfl ?_
  refine I_iload 4 244 dX6_cancel_242 rfl rfl ?_
  refine I_iload_n 3 245 dX6_cancel_244 rfl rfl rfl ?_
  refine I_callVi (As := [.int x4, .int x3]) (rest := [.int v238]) 248 (C_X6_there hst x0 x4 x3) dX6_cancel_245 rfl cl7 rfl (by decide) (Nat.le_of_ble_eq_true rfl) wcd_450 win_200 wml_451 wim_452 wse_453 ⟨by decide, by decide, pd_X6_there⟩ (fun x hx => by cases hx) (fun v245 => ?_)
  refine I_mmax 251 dX6_cancel_248 rfl wml_402 (by decide) (Nat.le_of_ble_eq_true rfl) ?_
  refine I_istore 253 [(7, .int (mx v238 v245)), (6, .int s0), (0, .ref x0), (2, .int x2), (3, .int x3), (4, .int x4)] dX6_cancel_251 rfl (by decide) rfl ?_
  refine I_aload_n 2 254 dX6_cancel_253 rfl rfl rfl ?_
  refine I_iload_n 4 255 dX6_cancel_254 rfl rfl rfl ?_
  refine I_iload 1 257 dX6_cancel_255 rfl rfl ?_
  refine I_iload 0 259 dX6_cancel_257 rfl rfl ?_
  refine I_callVi (As := [.int x3, .int s0, .int (mx v238 v245)]) (rest := []) 262 (C_X6_leadOn hst x0 x3 s0 (mx v238 v245)) dX6_cancel_259 rfl cl7 rfl (by decide) (Nat.le_of_ble_eq_true rfl) wcd_398 win_200 wml_399 wim_400 wse_401 ⟨by decide, by decide, pd_X6_leadOn⟩ (fun x hx => by cases hx) (fun v259 => ?_)
  refine I_if_eq 268 265 dX6_cancel_262 rfl rfl (fun _ => ?_) (fun _ => ?_)
  · refine I_aload_n 2 269 dX6_cancel_268 rfl rfl rfl ?_
    refine I_getA 272 dX6_cancel_269 rfl cl7 (by decide) wfl_72 sameF_rfl (fun v269 => ?_)
    refine I_iload 5 274 dX6_cancel_272 rfl rfl ?_
    refine I_iload 1 276 dX6_cancel_274 rfl rfl ?_
    refine I_iast 277 dX6_cancel_276 rfl ?_
    refine I_aload_n 2 278 dX6_cancel_277 rfl rfl rfl ?_
    refine I_getA 281 dX6_cancel_278 rfl cl7 (by decide) wfl_73 sameF_rfl (fun v278 => ?_)
    refine I_iload 5 283 dX6_cancel_281 rfl rfl ?_
    refine I_iload 0 285 dX6_cancel_283 rfl rfl ?_
    refine I_iast 286 dX6_cancel_285 rfl ?_
    refine I_sub [(0, .ref x0), (2, .int x2), (3, .int x3)] [2, 3, 4] rfl ?_
    exact I_X6_cancel_b286 hst x0 x2 x3 _ hkh152
  · refine I_goto 286 dX6_cancel_265 rfl ?_
    refine I_sub [(0, .ref x0), (2, .int x2), (3, .int x3)] [2, 3, 4] rfl ?_
    exact I_X6_cancel_b286 hst x0 x2 x3 _ hkh152
def X6_cancel_L152 (t0 mi : Nat) (x0 : Nat) (x2 : Int32) (kx : Mo Int32) : Nat → Int32 → Mo Int32
  | 0, _ => flr
  | n + 1, x3 =>
    bnd (gI x0 7 4) fun v154 =>
    (if v154 ≤ x3 then
    kx
    else
    bnd (gA' x0 7 37) fun v161 =>
    bnd (ldK 2 v161 x3) fun v165 =>
    (if v165 = 0 then
    X6_cancel_b286 t0 mi (X6_cancel_L152 t0 mi x0 x2 kx n) x0 x2 x3
    else
    bnd (vc x0 7 (f_X6_wayOf t0 mi x0 x3)) fun v174 =>
    bnd (gA' x0 7 24) fun v182 =>
    bnd (ldK 0 v182 v174) fun v187 =>
    bnd (f_X6_legAt t0 mi v174 (v187 - (1 : Int32))) fun v190 =>
    bnd (gA' x0 7 24) fun v196 =>
    bnd (ldK 0 v196 v174) fun v201 =>
    (if v201 = 0 then
    bnd (vc x0 7 (f_X6_fromOf t0 mi x0 x3)) fun v207 =>
    X6_cancel_b235 t0 mi (X6_cancel_L152 t0 mi x0 x2 kx n) x0 x2 x3 v174 v207
    else
    bnd (gA' x0 7 9) fun v214 =>
    bnd (gA' x0 7 27) fun v218 =>
    bnd (ldK 0 v218 v190) fun v223 =>
    bnd (gA' x0 7 29) fun v225 =>
    bnd (ldK 0 v225 v190) fun v230 =>
    bnd (f_X6_node t0 mi v223 v230) fun v231 =>
    bnd (ldK 0 v214 v231) fun v234 =>
    X6_cancel_b235 t0 mi (X6_cancel_L152 t0 mi x0 x2 kx n) x0 x2 x3 v174 v234)))
set_option maxRecDepth 20000 in
theorem I_X6_cancel_L152 {l : Launch} {g : GX} (hst : l.stackTraces = false) (x0 : Nat) (x2 : Int32) (kx : Mo Int32) (hkx : I l g M_X6_cancel cvI 292 [(2, .int x2)] [] kx) : ∀ (n : Nat) (x3 : Int32), I l g M_X6_cancel cvI 152 [(0, .ref x0), (2, .int x2), (3, .int x3)] [] (X6_cancel_L152 (gt0 g) (gmi g) x0 x2 kx n x3) := by
  intro n
  induction n with
  | zero => intro x3; rw [X6_cancel_L152]; exact I_flr
  | succ n ih =>
    intro x3; rw [X6_cancel_L152]
    refine I_iload_n 2 153 dX6_cancel_152 rfl rfl rfl ?_
    refine I_aload_n 0 154 dX6_cancel_153 rfl rfl rfl ?_
    refine I_getI 157 dX6_cancel_154 rfl cl7 (by decide) wfl_241 sameF_rfl (fun v154 => ?_)
    refine I_icmp_ge 292 160 dX6_cancel_157 rfl rfl (fun _ => ?_) (fun _ => ?_)
    · refine I_sub [(2, .int x2)] [1] rfl ?_
      exact hkx
    · refine I_aload_n 0 161 dX6_cancel_160 rfl rfl rfl ?_
      refine I_getA 164 dX6_cancel_161 rfl cl7 (by decide) wfl_79 sameF_rfl (fun v161 => ?_)
      refine I_iload_n 2 165 dX6_cancel_164 rfl rfl rfl ?_
      refine I_zald 166 dX6_cancel_165 rfl (fun v165 => ?_)
      refine I_if_ne 172 169 dX6_cancel_166 rfl rfl (fun _ => ?_) (fun _ => ?_)
      · refine I_goto 286 dX6_cancel_169 rfl ?_
        refine I_sub [(0, .ref x0), (2, .int x2), (3, .int x3)] [0, 1, 2] rfl ?_
        exact I_X6_cancel_b286 hst x0 x2 x3 _ ih
      · refine I_aload_n 0 173 dX6_cancel_172 rfl rfl rfl ?_
        refine I_iload_n 2 174 dX6_cancel_173 rfl rfl rfl ?_
        refine I_callVi (As := [.int x3]) (rest := []) 177 (C_X6_wayOf hst x0 x3) dX6_cancel_174 rfl cl7 rfl (by decide) (Nat.le_of_ble_eq_true rfl) wcd_362 win_200 wml_363 wim_364 wse_365 ⟨by decide, by decide, pd_X6_wayOf⟩ (fun x hx => by cases hx) (fun v174 => ?_)
        refine I_istore 179 [(4, .int v174), (0, .ref x0), (2, .int x2), (3, .int x3)] dX6_cancel_177 rfl (by decide) rfl ?_
        refine I_iload 0 181 dX6_cancel_179 rfl rfl ?_
        refine I_aload_n 1 182 dX6_cancel_181 rfl rfl rfl ?_
        refine I_getA 185 dX6_cancel_182 rfl cl7 (by decide) wfl_71 sameF_rfl (fun v182 => ?_)
        refine I_iload 0 187 dX6_cancel_185 rfl rfl ?_
        refine I_iald 188 dX6_cancel_187 rfl (fun v187 => ?_)
        refine I_iconst (1 : Int32) 189 dX6_cancel_188 rfl (by decide) ?_
        refine I_isub 190 dX6_cancel_189 rfl ?_
        refine I_callSi (As := [.int v174, .int (v187 - (1 : Int32))]) (rest := []) 193 (C_X6_legAt hst v174 (v187 - (1 : Int32))) dX6_cancel_190 rfl rfl (by decide) (Nat.le_of_ble_eq_true rfl) wcd_374 win_200 wml_375 wst_376 ⟨by decide, by decide, pd_X6_legAt⟩ (fun x hx => by cases hx) (fun v190 => ?_)
        refine I_istore 195 [(5, .int v190), (4, .int v174), (0, .ref x0), (2, .int x2), (3, .int x3)] dX6_cancel_193 rfl (by decide) rfl ?_
        refine I_aload_n 2 196 dX6_cancel_195 rfl rfl rfl ?_
        refine I_getA 199 dX6_cancel_196 rfl cl7 (by decide) wfl_71 sameF_rfl (fun v196 => ?_)
        refine I_iload 1 201 dX6_cancel_199 rfl rfl ?_
        refine I_iald 202 dX6_cancel_201 rfl (fun v201 => ?_)
        refine I_if_ne 213 205 dX6_cancel_202 rfl rfl (fun _ => ?_) (fun _ => ?_)
        · refine I_aload_n 2 206 dX6_cancel_205 rfl rfl rfl ?_
          refine I_iload_n 4 207 dX6_cancel_206 rfl rfl rfl ?_
          refine I_callVi (As := [.int x3]) (rest := []) 210 (C_X6_fromOf hst x0 x3) dX6_cancel_207 rfl cl7 rfl (by decide) (Nat.le_of_ble_eq_true rfl) wcd_389 win_200 wml_390 wim_391 wse_392 ⟨by decide, by decide, pd_X6_fromOf⟩ (fun x hx => by cases hx) (fun v207 => ?_)
          refine I_goto 235 dX6_cancel_210 rfl ?_
          refine I_sub [(0, .ref x0), (2, .int x2), (3, .int x3), (4, .int v174)] [2, 3, 4, 1] rfl ?_
          exact I_X6_cancel_b235 hst x0 x2 x3 v174 v207 _ ih
        · refine I_aload_n 2 214 dX6_cancel_213 rfl rfl rfl ?_
          refine I_getA 217 dX6_cancel_214 rfl cl7 (by decide) wfl_55 sameF_rfl (fun v214 => ?_)
          refine I_aload_n 2 218 dX6_cancel_217 rfl rfl rfl ?_
          refine I_getA 221 dX6_cancel_218 rfl cl7 (by decide) wfl_74 sameF_rfl (fun v218 => ?_)
          refine I_iload 0 223 dX6_cancel_221 rfl rfl ?_
          refine I_iald 224 dX6_cancel_223 rfl (fun v223 => ?_)
          refine I_aload_n 2 225 dX6_cancel_224 rfl rfl rfl ?_
          refine I_getA 228 dX6_cancel_225 rfl cl7 (by decide) wfl_76 sameF_rfl (fun v225 => ?_)
          refine I_iload 0 230 dX6_cancel_228 rfl rfl ?_
          refine I_iald 231 dX6_cancel_230 rfl (fun v230 => ?_)
          refine I_callSi (As := [.int v223, .int v230]) (rest := [.ref v214]) 234 (C_X6_node hst v223 v230) dX6_cancel_231 rfl rfl (by decide) (Nat.le_of_ble_eq_true rfl) wcd_208 win_200 wml_209 wst_210 ⟨by decide, by decide, pd_X6_node⟩ (fun x hx => by cases hx) (fun v231 => ?_)
          refine I_iald 235 dX6_cancel_234 rfl (fun v234 => ?_)
          refine I_sub [(0, .ref x0), (2, .int x2), (3, .int x3), (4, .int v174)] [2, 3, 4, 1] rfl ?_
          exact I_X6_cancel_b235 hst x0 x2 x3 v174 v234 _ ih
def f_X6_cancel (t0 mi : Nat) (x0 : Nat) (x1 : Int32) : Mo Int32 :=
    bnd (pV x0 7 0 (.int (0 : Int32))) fun _ =>
    bnd (vc x0 7 (f_X6_isTrain t0 mi x0 x1)) fun v7 =>
    (if v7 = 0 then
    bnd (vc x0 7 (f_X6_fail t0 mi x0)) fun v14 =>
    rt v14
    else
    bnd (gA' x0 7 13) fun v19 =>
    bnd (ldK 2 v19 x1) fun v23 =>
    (if v23 = 0 then
    bnd (gA' x0 7 8) fun v28 =>
    bnd (ldK 0 v28 x1) fun v32 =>
    (if v32 = 0 then
    X6_cancel_b53 t0 mi
    else
    bnd (gA' x0 7 10) fun v37 =>
    bnd (f_X6_node t0 mi x1 (0 : Int32)) fun v42 =>
    bnd (ldK 0 v37 v42) fun v45 =>
    bnd (gI x0 7 1) fun v47 =>
    (if v47 < v45 then
    bnd (gA' x0 7 13) fun v56 =>
    bnd (stZ v56 x1 (1 : Int32)) fun _ =>
    X6_cancel_L66 t0 mi x0 x1 (fun y1_2 =>
    X6_cancel_L152 t0 mi x0 y1_2 (rt y1_2) FU (0 : Int32)) FU (0 : Int32) (0 : Int32)
    else
    X6_cancel_b53 t0 mi))
    else
    X6_cancel_b53 t0 mi))
set_option maxRecDepth 20000 in
theorem I_X6_cancel {l : Launch} {g : GX} (hst : l.stackTraces = false) (x0 : Nat) (x1 : Int32) : I l g M_X6_cancel cvI 0 [(0, .ref x0), (1, .int x1)] [] (f_X6_cancel (gt0 g) (gmi g) x0 x1) := by
  unfold f_X6_cancel
  refine I_aload_n 0 1 dX6_cancel_0 rfl rfl rfl ?_
  refine I_iconst (0 : Int32) 2 dX6_cancel_1 rfl (by decide) ?_
  refine I_put 5 dX6_cancel_2 rfl cl7 (by decide) wfl_88 sameF_rfl rfl rfl rfl ?_
  refine I_aload_n 0 6 dX6_cancel_5 rfl rfl rfl ?_
  refine I_iload_n 1 7 dX6_cancel_6 rfl rfl rfl ?_
  refine I_callVi (As := [.int x1]) (rest := []) 10 (C_X6_isTrain hst x0 x1) dX6_cancel_7 rfl cl7 rfl (by decide) (Nat.le_of_ble_eq_true rfl) wcd_199 win_200 wml_201 wim_202 wse_203 ⟨by decide, by decide, pd_X6_isTrain⟩ (fun x hx => by cases hx) (fun v7 => ?_)
  refine I_if_ne 18 13 dX6_cancel_10 rfl rfl (fun _ => ?_) (fun _ => ?_)
  · refine I_aload_n 0 14 dX6_cancel_13 rfl rfl rfl ?_
    refine I_callVi (As := []) (rest := []) 17 (C_X6_fail hst x0) dX6_cancel_14 rfl cl7 rfl (by decide) (Nat.le_of_ble_eq_true rfl) wcd_204 win_200 wml_205 wim_206 wse_207 ⟨by decide, by decide, pd_X6_fail⟩ (fun x hx => by cases hx) (fun v14 => ?_)
    exact I_iret dX6_cancel_17 rfl
  · refine I_aload_n 0 19 dX6_cancel_18 rfl rfl rfl ?_
    refine I_getA 22 dX6_cancel_19 rfl cl7 (by decide) wfl_60 sameF_rfl (fun v19 => ?_)
    refine I_iload_n 1 23 dX6_cancel_22 rfl rfl rfl ?_
    refine I_zald 24 dX6_cancel_23 rfl (fun v23 => ?_)
    refine I_if_ne 53 27 dX6_cancel_24 rfl rfl (fun _ => ?_) (fun _ => ?_)
    · refine I_aload_n 0 28 dX6_cancel_27 rfl rfl rfl ?_
      refine I_getA 31 dX6_cancel_28 rfl cl7 (by decide) wfl_54 sameF_rfl (fun v28 => ?_)
      refine I_iload_n 1 32 dX6_cancel_31 rfl rfl rfl ?_
      refine I_iald 33 dX6_cancel_32 rfl (fun v32 => ?_)
      refine I_if_eq 53 36 dX6_cancel_33 rfl rfl (fun _ => ?_) (fun _ => ?_)
      · refine I_sub [] [] rfl ?_
        exact I_X6_cancel_b53 hst
      · refine I_aload_n 0 37 dX6_cancel_36 rfl rfl rfl ?_
        refine I_getA 40 dX6_cancel_37 rfl cl7 (by decide) wfl_56 sameF_rfl (fun v37 => ?_)
        refine I_iload_n 1 41 dX6_cancel_40 rfl rfl rfl ?_
        refine I_iconst (0 : Int32) 42 dX6_cancel_41 rfl (by decide) ?_
        refine I_callSi (As := [.int x1, .int (0 : Int32)]) (rest := [.ref v37]) 45 (C_X6_node hst x1 (0 : Int32)) dX6_cancel_42 rfl rfl (by decide) (Nat.le_of_ble_eq_true rfl) wcd_208 win_200 wml_209 wst_210 ⟨by decide, by decide, pd_X6_node⟩ (fun x hx => by cases hx) (fun v42 => ?_)
        refine I_iald 46 dX6_cancel_45 rfl (fun v45 => ?_)
        refine I_aload_n 0 47 dX6_cancel_46 rfl rfl rfl ?_
        refine I_getI 50 dX6_cancel_47 rfl cl7 (by decide) wfl_393 sameF_rfl (fun v47 => ?_)
        refine I_icmp_gt 55 53 dX6_cancel_50 rfl rfl (fun _ => ?_) (fun _ => ?_)
        · refine I_aload_n 0 56 dX6_cancel_55 rfl rfl rfl ?_
          refine I_getA 59 dX6_cancel_56 rfl cl7 (by decide) wfl_60 sameF_rfl (fun v56 => ?_)
          refine I_iload_n 1 60 dX6_cancel_59 rfl rfl rfl ?_
          refine I_iconst (1 : Int32) 61 dX6_cancel_60 rfl (by decide) ?_
          refine I_zast 62 dX6_cancel_61 rfl ?_
          refine I_iconst (0 : Int32) 63 dX6_cancel_62 rfl (by decide) ?_
          refine I_istore_n 64 [(2, .int (0 : Int32)), (0, .ref x0), (1, .int x1)] dX6_cancel_63 rfl rfl (by decide) rfl ?_
          refine I_iconst (0 : Int32) 65 dX6_cancel_64 rfl (by decide) ?_
          refine I_istore_n 66 [(3, .int (0 : Int32)), (2, .int (0 : Int32)), (0, .ref x0), (1, .int x1)] dX6_cancel_65 rfl rfl (by decide) rfl ?_
          refine I_sub [(0, .ref x0), (1, .int x1), (2, .int (0 : Int32)), (3, .int (0 : Int32))] [2, 3, 1, 0] rfl ?_
          refine I_X6_cancel_L66 hst x0 x1 _ (fun y1_2 => ?_) FU (0 : Int32) (0 : Int32)
          refine I_iconst (0 : Int32) 151 dX6_cancel_150 rfl (by decide) ?_
          refine I_istore_n 152 [(3, .int (0 : Int32)), (0, .ref x0), (2, .int y1_2)] dX6_cancel_151 rfl rfl (by decide) rfl ?_
          refine I_sub [(0, .ref x0), (2, .int y1_2), (3, .int (0 : Int32))] [1, 2, 0] rfl ?_
          refine I_X6_cancel_L152 hst x0 y1_2 _ ?_ FU (0 : Int32)
          refine I_iload_n 0 293 dX6_cancel_292 rfl rfl rfl ?_
          exact I_iret dX6_cancel_293 rfl
        · refine I_sub [] [] rfl ?_
          exact I_X6_cancel_b53 hst
    · refine I_sub [] [] rfl ?_
      exact I_X6_cancel_b53 hst
theorem C_X6_cancel {l : Launch} {g : GX} (hst : l.stackTraces = false) (x0 : Nat) (x1 : Int32) : Cs l g M_X6_cancel cvI [.ref x0, .int x1] (f_X6_cancel (gt0 g) (gmi g) x0 x1) :=
  Cs_of_I [(0, .ref x0), (1, .int x1)] rfl (by decide) hst (Nat.le_of_ble_eq_true rfl) rfl (I_X6_cancel hst x0 x1)
/-! LunchMarks.boxOf(I)LLunchMarks$Box; -/
abbrev M_X5_boxOf : MS := (yX5_boxOf, cX5_boxOf, 2, (some (.object "LunchMarks$Box")), [], 6, 82)
theorem pd_X5_boxOf : (parseMethodDescriptor (mY M_X5_boxOf).desc).map (fun d => d.parameters.length) = some 1 := by decide +kernel
def X5_boxOf_b15 (t0 mi : Nat) : Mo Nat :=
    thr "java/util/NoSuchElementException"
set_option maxRecDepth 20000 in
theorem I_X5_boxOf_b15 {l : Launch} {g : GX} (hst : l.stackTraces = false) : I l g M_X5_boxOf cvA 15 [] [] (X5_boxOf_b15 (gt0 g) (gmi g)) := by
  unfold X5_boxOf_b15
  exact I_throwX (rx := nseC) (by decide +kernel) (by decide +kernel) (by decide +kernel) (by decide +kernel) (k := 8) (names := thn) dX5_boxOf_15 dX5_boxOf_18 dX5_boxOf_19 dX5_boxOf_21 dX5_boxOf_24 rfl rfl (by decide) (by decide) wcl_162 win_163 thN_167 tgN_167 rfl (by decide) (Nat.le_of_ble_eq_true rfl)
def f_X5_boxOf (t0 mi : Nat) (x0 : Nat) (x1 : Int32) : Mo Nat :=
    (if x1 < 0 then
    X5_boxOf_b15 t0 mi
    else
    bnd (gA' x0 6 1) fun v6 =>
    bnd (vc v6 0 (f_Jx4a65c_size_8abf5 t0 mi v6)) fun v9 =>
    (if x1 < v9 then
    bnd (gA' x0 6 1) fun v26 =>
    bnd (vc v26 0 (f_Jx4a65c_get_915e3 t0 mi v26 x1)) fun v30 =>
    bnd (isC v30 1) fun _ =>
    rt v30
    else
    X5_boxOf_b15 t0 mi))
set_option maxRecDepth 20000 in
theorem I_X5_boxOf {l : Launch} {g : GX} (hst : l.stackTraces = false) (x0 : Nat) (x1 : Int32) : I l g M_X5_boxOf cvA 0 [(0, .ref x0), (1, .int x1)] [] (f_X5_boxOf (gt0 g) (gmi g) x0 x1) := by
  unfold f_X5_boxOf
  refine I_iload_n 1 1 dX5_boxOf_0 rfl rfl rfl ?_
  refine I_if_lt 15 4 dX5_boxOf_1 rfl rfl (fun _ => ?_) (fun _ => ?_)
  · refine I_sub [] [] rfl ?_
    exact I_X5_boxOf_b15 hst
  · refine I_iload_n 1 5 dX5_boxOf_4 rfl rfl rfl ?_
    refine I_aload_n 0 6 dX5_boxOf_5 rfl rfl rfl ?_
    refine I_getA 9 dX5_boxOf_6 rfl cl6 (by decide) wfl_41 sameF_rfl (fun v6 => ?_)
    refine I_callVi (As := []) (rest := [.int x1]) 12 (C_Jx4a65c_size_8abf5 hst v6) dX5_boxOf_9 rfl cl0 rfl (by decide) (Nat.le_of_ble_eq_true rfl) wcd_131 win_20 wml_165 wim_133 wse_134 ⟨by decide, by decide, pd_Jx4a65c_size_8abf5⟩ (fun x hx => by cases hx) (fun v9 => ?_)
    refine I_icmp_lt 25 15 dX5_boxOf_12 rfl rfl (fun _ => ?_) (fun _ => ?_)
    · refine I_aload_n 0 26 dX5_boxOf_25 rfl rfl rfl ?_
      refine I_getA 29 dX5_boxOf_26 rfl cl6 (by decide) wfl_41 sameF_rfl (fun v26 => ?_)
      refine I_iload_n 1 30 dX5_boxOf_29 rfl rfl rfl ?_
      refine I_callVa (As := [.int x1]) (rest := []) 33 (C_Jx4a65c_get_915e3 hst v26 x1) dX5_boxOf_30 rfl cl0 rfl (by decide) (Nat.le_of_ble_eq_true rfl) wcd_166 win_20 wml_167 wim_168 wse_169 ⟨by decide, by decide, pd_Jx4a65c_get_915e3⟩ (fun x hx => by cases hx) (fun v30 => ?_)
      refine I_cast 36 dX5_boxOf_33 rfl cl1 wcl_228 ?_
      exact I_aret dX5_boxOf_36 rfl (Or.inl ⟨_, rfl⟩)
    · refine I_sub [] [] rfl ?_
      exact I_X5_boxOf_b15 hst
theorem C_X5_boxOf {l : Launch} {g : GX} (hst : l.stackTraces = false) (x0 : Nat) (x1 : Int32) : Cs l g M_X5_boxOf cvA [.ref x0, .int x1] (f_X5_boxOf (gt0 g) (gmi g) x0 x1) :=
  Cs_of_I [(0, .ref x0), (1, .int x1)] rfl (by decide) hst (Nat.le_of_ble_eq_true rfl) rfl (I_X5_boxOf hst x0 x1)
/-! LunchMarks$Box.isEmpty()Z -/
abbrev M_X0_isEmpty : MS := (yX0_isEmpty, cX0_isEmpty, 1, (some .boolean), [], 0, 0)
theorem pd_X0_isEmpty : (parseMethodDescriptor (mY M_X0_isEmpty).desc).map (fun d => d.parameters.length) = some 0 := by decide +kernel
def X0_isEmpty_b12 (t0 mi : Nat) (s0 : Int32) : Mo Int32 :=
    rtZ s0
set_option maxRecDepth 20000 in
theorem I_X0_isEmpty_b12 {l : Launch} {g : GX} (hst : l.stackTraces = false) (s0 : Int32) : I l g M_X0_isEmpty cvI 12 [] [.int s0] (X0_isEmpty_b12 (gt0 g) (gmi g) s0) := by
  unfold X0_isEmpty_b12
  exact I_zret dX0_isEmpty_12 rfl
def f_X0_isEmpty (t0 mi : Nat) (x0 : Nat) : Mo Int32 :=
    bnd (gO x0 1 1) fun v1 =>
    (if v1 = none then
    X0_isEmpty_b12 t0 mi (0 : Int32)
    else
    X0_isEmpty_b12 t0 mi (1 : Int32))
set_option maxRecDepth 20000 in
theorem I_X0_isEmpty {l : Launch} {g : GX} (hst : l.stackTraces = false) (x0 : Nat) : I l g M_X0_isEmpty cvI 0 [(0, .ref x0)] [] (f_X0_isEmpty (gt0 g) (gmi g) x0) := by
  unfold f_X0_isEmpty
  refine I_aload_n 0 1 dX0_isEmpty_0 rfl rfl rfl ?_
  refine I_getO 4 dX0_isEmpty_1 rfl cl1 (by decide) wfl_227 sameF_rfl (fun v1 => ?_)
  refine I_ifnull 11 7 dX0_isEmpty_4 rfl rfl (fun _ => ?_) (fun _ => ?_)
  · refine I_iconst (0 : Int32) 12 dX0_isEmpty_11 rfl (by decide) ?_
    refine I_sub [] [] rfl ?_
    exact I_X0_isEmpty_b12 hst (0 : Int32)
  · refine I_iconst (1 : Int32) 8 dX0_isEmpty_7 rfl (by decide) ?_
    refine I_goto 12 dX0_isEmpty_8 rfl ?_
    refine I_sub [] [] rfl ?_
    exact I_X0_isEmpty_b12 hst (1 : Int32)
theorem C_X0_isEmpty {l : Launch} {g : GX} (hst : l.stackTraces = false) (x0 : Nat) : Cs l g M_X0_isEmpty cvI [.ref x0] (f_X0_isEmpty (gt0 g) (gmi g) x0) :=
  Cs_of_I [(0, .ref x0)] rfl (by decide) hst (Nat.le_of_ble_eq_true rfl) rfl (I_X0_isEmpty hst x0)
/-! LunchMarks$Trip.hasWay()Z -/
abbrev M_X4_hasWay : MS := (yX4_hasWay, cX4_hasWay, 1, (some .boolean), [], 0, 0)
theorem pd_X4_hasWay : (parseMethodDescriptor (mY M_X4_hasWay).desc).map (fun d => d.parameters.length) = some 0 := by decide +kernel
def X4_hasWay_b13 (t0 mi : Nat) (s0 : Int32) : Mo Int32 :=
    rtZ s0
set_option maxRecDepth 20000 in
theorem I_X4_hasWay_b13 {l : Launch} {g : GX} (hst : l.stackTraces = false) (s0 : Int32) : I l g M_X4_hasWay cvI 13 [] [.int s0] (X4_hasWay_b13 (gt0 g) (gmi g) s0) := by
  unfold X4_hasWay_b13
  exact I_zret dX4_hasWay_13 rfl
def f_X4_hasWay (t0 mi : Nat) (x0 : Nat) : Mo Int32 :=
    bnd (gI x0 5 9) fun v1 =>
    (if v1 = (-1 : Int32) then
    X4_hasWay_b13 t0 mi (0 : Int32)
    else
    X4_hasWay_b13 t0 mi (1 : Int32))
set_option maxRecDepth 20000 in
theorem I_X4_hasWay {l : Launch} {g : GX} (hst : l.stackTraces = false) (x0 : Nat) : I l g M_X4_hasWay cvI 0 [(0, .ref x0)] [] (f_X4_hasWay (gt0 g) (gmi g) x0) := by
  unfold f_X4_hasWay
  refine I_aload_n 0 1 dX4_hasWay_0 rfl rfl rfl ?_
  refine I_getI 4 dX4_hasWay_1 rfl cl5 (by decide) wfl_221 sameF_rfl (fun v1 => ?_)
  refine I_iconst (-1 : Int32) 5 dX4_hasWay_4 rfl (by decide) ?_
  refine I_icmp_eq 12 8 dX4_hasWay_5 rfl rfl (fun _ => ?_) (fun _ => ?_)
  · refine I_iconst (0 : Int32) 13 dX4_hasWay_12 rfl (by decide) ?_
    refine I_sub [] [] rfl ?_
    exact I_X4_hasWay_b13 hst (0 : Int32)
  · refine I_iconst (1 : Int32) 9 dX4_hasWay_8 rfl (by decide) ?_
    refine I_goto 13 dX4_hasWay_9 rfl ?_
    refine I_sub [] [] rfl ?_
    exact I_X4_hasWay_b13 hst (1 : Int32)
theorem C_X4_hasWay {l : Launch} {g : GX} (hst : l.stackTraces = false) (x0 : Nat) : Cs l g M_X4_hasWay cvI [.ref x0] (f_X4_hasWay (gt0 g) (gmi g) x0) :=
  Cs_of_I [(0, .ref x0)] rfl (by decide) hst (Nat.le_of_ble_eq_true rfl) rfl (I_X4_hasWay hst x0)
/-! LunchMarks$Trip.arrival()I -/
abbrev M_X4_arrival : MS := (yX4_arrival, cX4_arrival, 1, (some .int), [], 1, 20)
theorem pd_X4_arrival : (parseMethodDescriptor (mY M_X4_arrival).desc).map (fun d => d.parameters.length) = some 0 := by decide +kernel
def X4_arrival_b20 (t0 mi : Nat) (s0 : Int32) : Mo Int32 :=
    rt s0
set_option maxRecDepth 20000 in
theorem I_X4_arrival_b20 {l : Launch} {g : GX} (hst : l.stackTraces = false) (s0 : Int32) : I l g M_X4_arrival cvI 20 [] [.int s0] (X4_arrival_b20 (gt0 g) (gmi g) s0) := by
  unfold X4_arrival_b20
  exact I_iret dX4_arrival_20 rfl
def f_X4_arrival (t0 mi : Nat) (x0 : Nat) : Mo Int32 :=
    bnd (vc x0 5 (f_X4_hasWay t0 mi x0)) fun v1 =>
    (if v1 = 0 then
    X4_arrival_b20 t0 mi (-1 : Int32)
    else
    bnd (gI x0 5 9) fun v8 =>
    bnd (gI x0 5 4) fun v12 =>
    X4_arrival_b20 t0 mi (v8 + v12))
set_option maxRecDepth 20000 in
theorem I_X4_arrival {l : Launch} {g : GX} (hst : l.stackTraces = false) (x0 : Nat) : I l g M_X4_arrival cvI 0 [(0, .ref x0)] [] (f_X4_arrival (gt0 g) (gmi g) x0) := by
  unfold f_X4_arrival
  refine I_aload_n 0 1 dX4_arrival_0 rfl rfl rfl ?_
  refine I_callVi (As := []) (rest := []) 4 (C_X4_hasWay hst x0) dX4_arrival_1 rfl cl5 rfl (by decide) (Nat.le_of_ble_eq_true rfl) wcd_454 win_233 wml_455 wim_456 wse_457 ⟨by decide, by decide, pd_X4_hasWay⟩ (fun x hx => by cases hx) (fun v1 => ?_)
  refine I_if_eq 19 7 dX4_arrival_4 rfl rfl (fun _ => ?_) (fun _ => ?_)
  · refine I_iconst (-1 : Int32) 20 dX4_arrival_19 rfl (by decide) ?_
    refine I_sub [] [] rfl ?_
    exact I_X4_arrival_b20 hst (-1 : Int32)
  · refine I_aload_n 0 8 dX4_arrival_7 rfl rfl rfl ?_
    refine I_getI 11 dX4_arrival_8 rfl cl5 (by decide) wfl_221 sameF_rfl (fun v8 => ?_)
    refine I_aload_n 0 12 dX4_arrival_11 rfl rfl rfl ?_
    refine I_getI 15 dX4_arrival_12 rfl cl5 (by decide) wfl_216 sameF_rfl (fun v12 => ?_)
    refine I_iadd 16 dX4_arrival_15 rfl ?_
    refine I_goto 20 dX4_arrival_16 rfl ?_
    refine I_sub [] [] rfl ?_
    exact I_X4_arrival_b20 hst (v8 + v12)
theorem C_X4_arrival {l : Launch} {g : GX} (hst : l.stackTraces = false) (x0 : Nat) : Cs l g M_X4_arrival cvI [.ref x0] (f_X4_arrival (gt0 g) (gmi g) x0) :=
  Cs_of_I [(0, .ref x0)] rfl (by decide) hst (Nat.le_of_ble_eq_true rfl) rfl (I_X4_arrival hst x0)
