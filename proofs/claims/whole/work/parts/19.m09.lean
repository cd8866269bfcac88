/-! LunchMarks$Box.ledLegs()I -/
abbrev M_X0_ledLegs : MS := (yX0_ledLegs, cX0_ledLegs, 1, (some .int), [], 0, 0)
theorem pd_X0_ledLegs : (parseMethodDescriptor (mY M_X0_ledLegs).desc).map (fun d => d.parameters.length) = some 0 := by decide +kernel
def X0_ledLegs_b32 (t0 mi : Nat) (s0 : Int32) : Mo Int32 :=
    rt s0
set_option maxRecDepth 20000 in
theorem I_X0_ledLegs_b32 {l : Launch} {g : GX} (hst : l.stackTraces = false) (s0 : Int32) : I l g M_X0_ledLegs cvI 32 [] [.int s0] (X0_ledLegs_b32 (gt0 g) (gmi g) s0) := by
  unfold X0_ledLegs_b32
  exact I_iret dX0_ledLegs_32 rfl
def f_X0_ledLegs (t0 mi : Nat) (x0 : Nat) : Mo Int32 :=
    bnd (gO x0 1 1) fun v1 =>
    (if v1 = none then
    bnd (gA' x0 1 0) fun v8 =>
    bnd (gI v8 5 7) fun v11 =>
    X0_ledLegs_b32 t0 mi v11
    else
    bnd (gA' x0 1 0) fun v18 =>
    bnd (gI v18 5 7) fun v21 =>
    bnd (gA' x0 1 1) fun v25 =>
    bnd (gI v25 5 7) fun v28 =>
    X0_ledLegs_b32 t0 mi (v21 + v28))
set_option maxRecDepth 20000 in
theorem I_X0_ledLegs {l : Launch} {g : GX} (hst : l.stackTraces = false) (x0 : Nat) : I l g M_X0_ledLegs cvI 0 [(0, .ref x0)] [] (f_X0_ledLegs (gt0 g) (gmi g) x0) := by
  unfold f_X0_ledLegs
  refine I_aload_n 0 1 dX0_ledLegs_0 rfl rfl rfl ?_
  refine I_getO 4 dX0_ledLegs_1 rfl cl1 (by decide) wfl_227 sameF_rfl (fun v1 => ?_)
  refine I_ifnonnull 17 7 dX0_ledLegs_4 rfl rfl (fun _ => ?_) (fun _ => ?_)
  · refine I_aload_n 0 8 dX0_ledLegs_7 rfl rfl rfl ?_
    refine I_getA 11 dX0_ledLegs_8 rfl cl1 (by decide) wfl_226 sameF_rfl (fun v8 => ?_)
    refine I_getI 14 dX0_ledLegs_11 rfl cl5 (by decide) wfl_519 sameF_rfl (fun v11 => ?_)
    refine I_goto 32 dX0_ledLegs_14 rfl ?_
    refine I_sub [] [] rfl ?_
    exact I_X0_ledLegs_b32 hst v11
  · refine I_aload_n 0 18 dX0_ledLegs_17 rfl rfl rfl ?_
    refine I_getA 21 dX0_ledLegs_18 rfl cl1 (by decide) wfl_226 sameF_rfl (fun v18 => ?_)
    refine I_getI 24 dX0_ledLegs_21 rfl cl5 (by decide) wfl_519 sameF_rfl (fun v21 => ?_)
    refine I_aload_n 0 25 dX0_ledLegs_24 rfl rfl rfl ?_
    refine I_getA 28 dX0_ledLegs_25 rfl cl1 (by decide) wfl_227 sameF_rfl (fun v25 => ?_)
    refine I_getI 31 dX0_ledLegs_28 rfl cl5 (by decide) wfl_519 sameF_rfl (fun v28 => ?_)
    refine I_iadd 32 dX0_ledLegs_31 rfl ?_
    refine I_sub [] [] rfl ?_
    exact I_X0_ledLegs_b32 hst (v21 + v28)
theorem C_X0_ledLegs {l : Launch} {g : GX} (hst : l.stackTraces = false) (x0 : Nat) : Cs l g M_X0_ledLegs cvI [.ref x0] (f_X0_ledLegs (gt0 g) (gmi g) x0) :=
  Cs_of_I [(0, .ref x0)] rfl (by decide) hst (Nat.le_of_ble_eq_true rfl) rfl (I_X0_ledLegs hst x0)
/-! LunchMarks$Box.ledLeg(II)I -/
abbrev M_X0_ledLeg : MS := (yX0_ledLeg, cX0_ledLeg, 3, (some .int), [], 1, 22)
theorem pd_X0_ledLeg : (parseMethodDescriptor (mY M_X0_ledLeg).desc).map (fun d => d.parameters.length) = some 2 := by decide +kernel
def X0_ledLeg_b18 (t0 mi : Nat) (x0 : Nat) (x1 : Int32) (x2 : Int32) : Mo Int32 :=
    bnd (gA' x0 1 0) fun v19 =>
    bnd (vc v19 5 (f_X4_legNumber t0 mi v19 x1 x2)) fun v24 =>
    rt v24
set_option maxRecDepth 20000 in
theorem I_X0_ledLeg_b18 {l : Launch} {g : GX} (hst : l.stackTraces = false) (x0 : Nat) (x1 : Int32) (x2 : Int32) : I l g M_X0_ledLeg cvI 18 [(0, .ref x0), (1, .int x1), (2, .int x2)] [] (X0_ledLeg_b18 (gt0 g) (gmi g) x0 x1 x2) := by
  unfold X0_ledLeg_b18
  refine I_aload_n 0 19 dX0_ledLeg_18 rfl rfl rfl ?_
  refine I_getA 22 dX0_ledLeg_19 rfl cl1 (by decide) wfl_226 sameF_rfl (fun v19 => ?_)
  refine I_iload_n 1 23 dX0_ledLeg_22 rfl rfl rfl ?_
  refine I_iload_n 2 24 dX0_ledLeg_23 rfl rfl rfl ?_
  refine I_callVi (As := [.int x1, .int x2]) (rest := []) 27 (C_X4_legNumber hst v19 x1 x2) dX0_ledLeg_24 rfl cl5 rfl (by decide) (Nat.le_of_ble_eq_true rfl) wcd_290 win_233 wml_520 wim_292 wse_293 ⟨by decide, by decide, pd_X4_legNumber⟩ (fun x hx => by cases hx) (fun v24 => ?_)
  exact I_iret dX0_ledLeg_27 rfl
def f_X0_ledLeg (t0 mi : Nat) (x0 : Nat) (x1 : Int32) (x2 : Int32) : Mo Int32 :=
    bnd (gO x0 1 1) fun v1 =>
    (if v1 = none then
    X0_ledLeg_b18 t0 mi x0 x1 x2
    else
    bnd (gA' x0 1 0) fun v9 =>
    bnd (gI v9 5 7) fun v12 =>
    (if v12 ≤ x1 then
    bnd (gA' x0 1 1) fun v29 =>
    bnd (gA' x0 1 0) fun v34 =>
    bnd (gI v34 5 7) fun v37 =>
    bnd (vc v29 5 (f_X4_legNumber t0 mi v29 (x1 - v37) x2)) fun v42 =>
    rt v42
    else
    X0_ledLeg_b18 t0 mi x0 x1 x2))
set_option maxRecDepth 20000 in
theorem I_X0_ledLeg {l : Launch} {g : GX} (hst : l.stackTraces = false) (x0 : Nat) (x1 : Int32) (x2 : Int32) : I l g M_X0_ledLeg cvI 0 [(0, .ref x0), (1, .int x1), (2, .int x2)] [] (f_X0_ledLeg (gt0 g) (gmi g) x0 x1 x2) := by
  unfold f_X0_ledLeg
  refine I_aload_n 0 1 dX0_ledLeg_0 rfl rfl rfl ?_
  refine I_getO 4 dX0_ledLeg_1 rfl cl1 (by decide) wfl_227 sameF_rfl (fun v1 => ?_)
  refine I_ifnull 18 7 dX0_ledLeg_4 rfl rfl (fun _ => ?_) (fun _ => ?_)
  · refine I_sub [(0, .ref x0), (1, .int x1), (2, .int x2)] [0, 1, 2] rfl ?_
    exact I_X0_ledLeg_b18 hst x0 x1 x2
  · refine I_iload_n 1 8 dX0_ledLeg_7 rfl rfl rfl ?_
    refine I_aload_n 0 9 dX0_ledLeg_8 rfl rfl rfl ?_
    refine I_getA 12 dX0_ledLeg_9 rfl cl1 (by decide) wfl_226 sameF_rfl (fun v9 => ?_)
    refine I_getI 15 dX0_ledLeg_12 rfl cl5 (by decide) wfl_519 sameF_rfl (fun v12 => ?_)
    refine I_icmp_ge 28 18 dX0_ledLeg_15 rfl rfl (fun _ => ?_) (fun _ => ?_)
    · refine I_aload_n 0 29 dX0_ledLeg_28 rfl rfl rfl ?_
      refine I_getA 32 dX0_ledLeg_29 rfl cl1 (by decide) wfl_227 sameF_rfl (fun v29 => ?_)
      refine I_iload_n 1 33 dX0_ledLeg_32 rfl rfl rfl ?_
      refine I_aload_n 0 34 dX0_ledLeg_33 rfl rfl rfl ?_
      refine I_getA 37 dX0_ledLeg_34 rfl cl1 (by decide) wfl_226 sameF_rfl (fun v34 => ?_)
      refine I_getI 40 dX0_ledLeg_37 rfl cl5 (by decide) wfl_519 sameF_rfl (fun v37 => ?_)
      refine I_isub 41 dX0_ledLeg_40 rfl ?_
      refine I_iload_n 2 42 dX0_ledLeg_41 rfl rfl rfl ?_
      refine I_callVi (As := [.int (x1 - v37), .int x2]) (rest := []) 45 (C_X4_legNumber hst v29 (x1 - v37) x2) dX0_ledLeg_42 rfl cl5 rfl (by decide) (Nat.le_of_ble_eq_true rfl) wcd_290 win_233 wml_520 wim_292 wse_293 ⟨by decide, by decide, pd_X4_legNumber⟩ (fun x hx => by cases hx) (fun v42 => ?_)
      exact I_iret dX0_ledLeg_45 rfl
    · refine I_sub [(0, .ref x0), (1, .int x1), (2, .int x2)] [0, 1, 2] rfl ?_
      exact I_X0_ledLeg_b18 hst x0 x1 x2
theorem C_X0_ledLeg {l : Launch} {g : GX} (hst : l.stackTraces = false) (x0 : Nat) (x1 : Int32) (x2 : Int32) : Cs l g M_X0_ledLeg cvI [.ref x0, .int x1, .int x2] (f_X0_ledLeg (gt0 g) (gmi g) x0 x1 x2) :=
  Cs_of_I [(0, .ref x0), (1, .int x1), (2, .int x2)] rfl (by decide) hst (Nat.le_of_ble_eq_true rfl) rfl (I_X0_ledLeg hst x0 x1 x2)
/-! LunchMarks.leg(III)I -/
abbrev M_X5_leg : MS := (yX5_leg, cX5_leg, 5, (some .int), [], 7, 103)
theorem pd_X5_leg : (parseMethodDescriptor (mY M_X5_leg).desc).map (fun d => d.parameters.length) = some 3 := by decide +kernel
def X5_leg_b29 (t0 mi : Nat) : Mo Int32 :=
    thr "java/util/NoSuchElementException"
set_option maxRecDepth 20000 in
theorem I_X5_leg_b29 {l : Launch} {g : GX} (hst : l.stackTraces = false) : I l g M_X5_leg cvI 29 [] [] (X5_leg_b29 (gt0 g) (gmi g)) := by
  unfold X5_leg_b29
  exact I_throwX (rx := nseC) (by decide +kernel) (by decide +kernel) (by decide +kernel) (by decide +kernel) (k := 2) (names := thn) dX5_leg_29 dX5_leg_32 dX5_leg_33 dX5_leg_35 dX5_leg_38 rfl rfl (by decide) (by decide) wcl_162 win_163 thN_167 tgN_167 rfl (by decide) (Nat.le_of_ble_eq_true rfl)
def f_X5_leg (t0 mi : Nat) (x0 : Nat) (x1 : Int32) (x2 : Int32) (x3 : Int32) : Mo Int32 :=
    bnd (vc x0 6 (f_X5_boxOf t0 mi x0 x1)) fun v2 =>
    (if x3 < 0 then
    X5_leg_b29 t0 mi
    else
    (if (3 : Int32) ≤ x3 then
    X5_leg_b29 t0 mi
    else
    (if x2 < 0 then
    X5_leg_b29 t0 mi
    else
    bnd (vc v2 1 (f_X0_ledLegs t0 mi v2)) fun v23 =>
    (if x2 < v23 then
    bnd (vc v2 1 (f_X0_ledLeg t0 mi v2 x2 x3)) fun v43 =>
    rt v43
    else
    X5_leg_b29 t0 mi))))
set_option maxRecDepth 20000 in
theorem I_X5_leg {l : Launch} {g : GX} (hst : l.stackTraces = false) (x0 : Nat) (x1 : Int32) (x2 : Int32) (x3 : Int32) : I l g M_X5_leg cvI 0 [(0, .ref x0), (1, .int x1), (2, .int x2), (3, .int x3)] [] (f_X5_leg (gt0 g) (gmi g) x0 x1 x2 x3) := by
  unfold f_X5_leg
  refine I_aload_n 0 1 dX5_leg_0 rfl rfl rfl ?_
  refine I_iload_n 1 2 dX5_leg_1 rfl rfl rfl ?_
  refine I_callVa (As := [.int x1]) (rest := []) 5 (C_X5_boxOf hst x0 x1) dX5_leg_2 rfl cl6 rfl (by decide) (Nat.le_of_ble_eq_true rfl) wcd_464 win_81 wml_465 wim_466 wse_467 ⟨by decide, by decide, pd_X5_boxOf⟩ (fun x hx => by cases hx) (fun v2 => ?_)
  refine I_astore 7 [(4, .ref v2), (0, .ref x0), (1, .int x1), (2, .int x2), (3, .int x3)] dX5_leg_5 rfl (by decide) rfl ?_
  refine I_iload_n 4 8 dX5_leg_7 rfl rfl rfl ?_
  refine I_if_lt 29 11 dX5_leg_8 rfl rfl (fun _ => ?_) (fun _ => ?_)
  · refine I_sub [] [] rfl ?_
    exact I_X5_leg_b29 hst
  · refine I_iload_n 4 12 dX5_leg_11 rfl rfl rfl ?_
    refine I_iconst (3 : Int32) 13 dX5_leg_12 rfl (by decide) ?_
    refine I_icmp_ge 29 16 dX5_leg_13 rfl rfl (fun _ => ?_) (fun _ => ?_)
    · refine I_sub [] [] rfl ?_
      exact I_X5_leg_b29 hst
    · refine I_iload_n 3 17 dX5_leg_16 rfl rfl rfl ?_
      refine I_if_lt 29 20 dX5_leg_17 rfl rfl (fun _ => ?_) (fun _ => ?_)
      · refine I_sub [] [] rfl ?_
        exact I_X5_leg_b29 hst
      · refine I_iload_n 3 21 dX5_leg_20 rfl rfl rfl ?_
        refine I_aload 0 23 dX5_leg_21 rfl rfl ?_
        refine I_callVi (As := []) (rest := [.int x2]) 26 (C_X0_ledLegs hst v2) dX5_leg_23 rfl cl1 rfl (by decide) (Nat.le_of_ble_eq_true rfl) wcd_521 win_230 wml_522 wim_523 wse_524 ⟨by decide, by decide, pd_X0_ledLegs⟩ (fun x hx => by cases hx) (fun v23 => ?_)
        refine I_icmp_lt 39 29 dX5_leg_26 rfl rfl (fun _ => ?_) (fun _ => ?_)
        · refine I_aload 0 41 dX5_leg_39 rfl rfl ?_
          refine I_iload_n 3 42 dX5_leg_41 rfl rfl rfl ?_
          refine I_iload_n 4 43 dX5_leg_42 rfl rfl rfl ?_
          refine I_callVi (As := [.int x2, .int x3]) (rest := []) 46 (C_X0_ledLeg hst v2 x2 x3) dX5_leg_43 rfl cl1 rfl (by decide) (Nat.le_of_ble_eq_true rfl) wcd_525 win_230 wml_526 wim_527 wse_528 ⟨by decide, by decide, pd_X0_ledLeg⟩ (fun x hx => by cases hx) (fun v43 => ?_)
          exact I_iret dX5_leg_46 rfl
        · refine I_sub [] [] rfl ?_
          exact I_X5_leg_b29 hst
theorem C_X5_leg {l : Launch} {g : GX} (hst : l.stackTraces = false) (x0 : Nat) (x1 : Int32) (x2 : Int32) (x3 : Int32) : Cs l g M_X5_leg cvI [.ref x0, .int x1, .int x2, .int x3] (f_X5_leg (gt0 g) (gmi g) x0 x1 x2 x3) :=
  Cs_of_I [(0, .ref x0), (1, .int x1), (2, .int x2), (3, .int x3)] rfl (by decide) hst (Nat.le_of_ble_eq_true rfl) rfl (I_X5_leg hst x0 x1 x2 x3)
/-! LunchMarksLaw.leg(LLunchMarks;III[J)I -/
abbrev M_L_leg : MS := (yL_leg, cL_leg, 6, (some .int), tableOf [(0, 12, 15, 13)], 8, 127)
theorem pd_L_leg : (parseMethodDescriptor (mY M_L_leg).desc).map (fun d => d.parameters.length) = some 5 := by decide +kernel
def f_L_leg (t0 mi : Nat) (x0 : Nat) (x1 : Int32) (x2 : Int32) (x3 : Int32) (x4 : Nat) : Mo Int32 :=
    ctc (vc x0 6 (f_X5_leg t0 mi x0 x1 x2 x3)) (fun v7 =>
    bnd (stL x4 (0 : Int32) v7.toInt64) fun _ =>
    rt (0 : Int32)) (fun E =>
    (if E = "java/util/NoSuchElementException" then
    rt (1 : Int32)
    else
    flr))
set_option maxRecDepth 20000 in
theorem I_L_leg {l : Launch} {g : GX} (hst : l.stackTraces = false) (x0 : Nat) (x1 : Int32) (x2 : Int32) (x3 : Int32) (x4 : Nat) : I l g M_L_leg cvI 0 [(0, .ref x0), (1, .int x1), (2, .int x2), (3, .int x3), (4, .ref x4)] [] (f_L_leg (gt0 g) (gmi g) x0 x1 x2 x3 x4) := by
  unfold f_L_leg
  refine I_aload 4 2 dL_leg_0 rfl rfl ?_
  refine I_iconst (0 : Int32) 3 dL_leg_2 rfl (by decide) ?_
  refine I_aload_n 0 4 dL_leg_3 rfl rfl rfl ?_
  refine I_iload_n 1 5 dL_leg_4 rfl rfl rfl ?_
  refine I_iload_n 2 6 dL_leg_5 rfl rfl rfl ?_
  refine I_iload_n 3 7 dL_leg_6 rfl rfl rfl ?_
  refine I_callVc1 (As := [.int x1, .int x2, .int x3]) (rest := [.int (0 : Int32), .ref x4]) 10 (C_X5_leg hst x0 x1 x2 x3) dL_leg_7 rfl cl6 rfl (by decide) (Nat.le_of_ble_eq_true rfl) wcd_529 win_81 wml_530 wim_531 wse_532 ⟨by decide, by decide, pd_X5_leg⟩ rfl (by decide) (by decide) wcl_198 xc_N (fun v7 => ?_) (fun q15 => ?_)
  · refine I_i2l 11 dL_leg_10 rfl ?_
    refine I_last 12 dL_leg_11 rfl ?_
    refine I_goto 19 dL_leg_12 rfl ?_
    refine I_iconst (0 : Int32) 20 dL_leg_19 rfl (by decide) ?_
    exact I_iret dL_leg_20 rfl
  · refine I_astore 17 [(5, .ref q15), (0, .ref x0), (1, .int x1), (2, .int x2), (3, .int x3), (4, .ref x4)] dL_leg_15 rfl (by decide) rfl ?_
    refine I_iconst (1 : Int32) 18 dL_leg_17 rfl (by decide) ?_
    exact I_iret dL_leg_18 rfl
theorem C_L_leg {l : Launch} {g : GX} (hst : l.stackTraces = false) (x0 : Nat) (x1 : Int32) (x2 : Int32) (x3 : Int32) (x4 : Nat) : CsW l g M_L_leg [(0, 12, 15, 13)] cvI [.ref x0, .int x1, .int x2, .int x3, .ref x4] (f_L_leg (gt0 g) (gmi g) x0 x1 x2 x3 x4) :=
  CsW_of_I [(0, .ref x0), (1, .int x1), (2, .int x2), (3, .int x3), (4, .ref x4)] rfl (by decide) hst (Nat.le_of_ble_eq_true rfl) rfl (I_L_leg hst x0 x1 x2 x3 x4)
/-! LunchMarksModel.leg(III)I -/
abbrev M_X6_leg : MS := (yX6_leg, cX6_leg, 5, (some .int), [], 1, 21)
theorem pd_X6_leg : (parseMethodDescriptor (mY M_X6_leg).desc).map (fun d => d.parameters.length) = some 3 := by decide +kernel
def X6_leg_b49 (t0 mi : Nat) (x0 : Nat) : Mo Int32 :=
    bnd (vc x0 7 (f_X6_fail t0 mi x0)) fun v50 =>
    rt v50
set_option maxRecDepth 20000 in
theorem I_X6_leg_b49 {l : Launch} {g : GX} (hst : l.stackTraces = false) (x0 : Nat) : I l g M_X6_leg cvI 49 [(0, .ref x0)] [] (X6_leg_b49 (gt0 g) (gmi g) x0) := by
  unfold X6_leg_b49
  refine I_aload_n 0 50 dX6_leg_49 rfl rfl rfl ?_
  refine I_callVi (As := []) (rest := []) 53 (C_X6_fail hst x0) dX6_leg_50 rfl cl7 rfl (by decide) (Nat.le_of_ble_eq_true rfl) wcd_204 win_200 wml_205 wim_206 wse_207 ⟨by decide, by decide, pd_X6_fail⟩ (fun x hx => by cases hx) (fun v50 => ?_)
  exact I_iret dX6_leg_53 rfl
def X6_leg_b132 (t0 mi : Nat) (s0 : Int32) : Mo Int32 :=
    rt s0
set_option maxRecDepth 20000 in
theorem I_X6_leg_b132 {l : Launch} {g : GX} (hst : l.stackTraces = false) (s0 : Int32) : I l g M_X6_leg cvI 132 [] [.int s0] (X6_leg_b132 (gt0 g) (gmi g) s0) := by
  unfold X6_leg_b132
  exact I_iret dX6_leg_132 rfl
def X6_leg_b94 (t0 mi : Nat) (x0 : Nat) (x3 : Int32) (s0 : Int32) : Mo Int32 :=
    (if x3 = 0 then
    bnd (gA' x0 7 27) fun v101 =>
    bnd (ldK 0 v101 s0) fun v106 =>
    X6_leg_b132 t0 mi v106
    else
    (if x3 = (1 : Int32) then
    bnd (gA' x0 7 28) fun v116 =>
    bnd (ldK 0 v116 s0) fun v121 =>
    X6_leg_b132 t0 mi v121
    else
    bnd (gA' x0 7 29) fun v126 =>
    bnd (ldK 0 v126 s0) fun v131 =>
    X6_leg_b132 t0 mi v131))
set_option maxRecDepth 20000 in
theorem I_X6_leg_b94 {l : Launch} {g : GX} (hst : l.stackTraces = false) (x0 : Nat) (x3 : Int32) (s0 : Int32) : I l g M_X6_leg cvI 94 [(0, .ref x0), (3, .int x3)] [.int s0] (X6_leg_b94 (gt0 g) (gmi g) x0 x3 s0) := by
  unfold X6_leg_b94
  refine I_istore 96 [(4, .int s0), (0, .ref x0), (3, .int x3)] dX6_leg_94 rfl (by decide) rfl ?_
  refine I_iload_n 2 97 dX6_leg_96 rfl rfl rfl ?_
  refine I_if_ne 110 100 dX6_leg_97 rfl rfl (fun _ => ?_) (fun _ => ?_)
  · refine I_aload_n 1 101 dX6_leg_100 rfl rfl rfl ?_
    refine I_getA 104 dX6_leg_101 rfl cl7 (by decide) wfl_74 sameF_rfl (fun v101 => ?_)
    refine I_iload 0 106 dX6_leg_104 rfl rfl ?_
    refine I_iald 107 dX6_leg_106 rfl (fun v106 => ?_)
    refine I_goto 132 dX6_leg_107 rfl ?_
    refine I_sub [] [] rfl ?_
    exact I_X6_leg_b132 hst v106
  · refine I_iload_n 2 111 dX6_leg_110 rfl rfl rfl ?_
    refine I_iconst (1 : Int32) 112 dX6_leg_111 rfl (by decide) ?_
    refine I_icmp_ne 125 115 dX6_leg_112 rfl rfl (fun _ => ?_) (fun _ => ?_)
    · refine I_aload_n 1 116 dX6_leg_115 rfl rfl rfl ?_
      refine I_getA 119 dX6_leg_116 rfl cl7 (by decide) wfl_75 sameF_rfl (fun v116 => ?_)
      refine I_iload 0 121 dX6_leg_119 rfl rfl ?_
      refine I_iald 122 dX6_leg_121 rfl (fun v121 => ?_)
      refine I_goto 132 dX6_leg_122 rfl ?_
      refine I_sub [] [] rfl ?_
      exact I_X6_leg_b132 hst v121
    · refine I_aload_n 1 126 dX6_leg_125 rfl rfl rfl ?_
      refine I_getA 129 dX6_leg_126 rfl cl7 (by decide) wfl_76 sameF_rfl (fun v126 => ?_)
      refine I_iload 0 131 dX6_leg_129 rfl rfl ?_
      refine I_iald 132 dX6_leg_131 rfl (fun v131 => ?_)
      refine I_sub [] [] rfl ?_
      exact I_X6_leg_b132 hst v131
def f_X6_leg (t0 mi : Nat) (x0 : Nat) (x1 : Int32) (x2 : Int32) (x3 : Int32) : Mo Int32 :=
    bnd (pV x0 7 0 (.int (0 : Int32))) fun _ =>
    bnd (vc x0 7 (f_X6_isBox t0 mi x0 x1)) fun v7 =>
    (if v7 = 0 then
    X6_leg_b49 t0 mi x0
    else
    (if x2 < 0 then
    X6_leg_b49 t0 mi x0
    else
    bnd (gA' x0 7 24) fun v19 =>
    bnd (ldK 0 v19 ((2 : Int32) * x1)) fun v25 =>
    bnd (gA' x0 7 24) fun v27 =>
    bnd (ldK 0 v27 (((2 : Int32) * x1) + (1 : Int32))) fun v35 =>
    (if (v25 + v35) ≤ x2 then
    X6_leg_b49 t0 mi x0
    else
    (if x3 < 0 then
    X6_leg_b49 t0 mi x0
    else
    (if x3 ≤ (2 : Int32) then
    bnd (gA' x0 7 24) fun v56 =>
    bnd (ldK 0 v56 ((2 : Int32) * x1)) fun v62 =>
    (if v62 ≤ x2 then
    bnd (gA' x0 7 24) fun v83 =>
    bnd (ldK 0 v83 ((2 : Int32) * x1)) fun v89 =>
    bnd (f_X6_legAt t0 mi (((2 : Int32) * x1) + (1 : Int32)) (x2 - v89)) fun v91 =>
    X6_leg_b94 t0 mi x0 x3 v91
    else
    bnd (f_X6_legAt t0 mi ((2 : Int32) * x1) x2) fun v70 =>
    X6_leg_b94 t0 mi x0 x3 v70)
    else
    X6_leg_b49 t0 mi x0)))))
set_option maxRecDepth 20000 in
theorem I_X6_leg {l : Launch} {g : GX} (hst : l.stackTraces = false) (x0 : Nat) (x1 : Int32) (x2 : Int32) (x3 : Int32) : I l g M_X6_leg cvI 0 [(0, .ref x0), (1, .int x1), (2, .int x2), (3, .int x3)] [] (f_X6_leg (gt0 g) (gmi g) x0 x1 x2 x3) := by
  unfold f_X6_leg
  refine I_aload_n 0 1 dX6_leg_0 rfl rfl rfl ?_
  refine I_iconst (0 : Int32) 2 dX6_leg_1 rfl (by decide) ?_
  refine I_put 5 dX6_leg_2 rfl cl7 (by decide) wfl_88 sameF_rfl rfl rfl rfl ?_
  refine I_aload_n 0 6 dX6_leg_5 rfl rfl rfl ?_
  refine I_iload_n 1 7 dX6_leg_6 rfl rfl rfl ?_
  refine I_callVi (As := [.int x1]) (rest := []) 10 (C_X6_isBox hst x0 x1) dX6_leg_7 rfl cl7 rfl (by decide) (Nat.le_of_ble_eq_true rfl) wcd_486 win_200 wml_487 wim_488 wse_489 ⟨by decide, by decide, pd_X6_isBox⟩ (fun x hx => by cases hx) (fun v7 => ?_)
  refine I_if_eq 49 13 dX6_leg_10 rfl rfl (fun _ => ?_) (fun _ => ?_)
  · refine I_sub [(0, .ref x0)] [0] rfl ?_
    exact I_X6_leg_b49 hst x0
  · refine I_iload_n 2 14 dX6_leg_13 rfl rfl rfl ?_
    refine I_if_lt 49 17 dX6_leg_14 rfl rfl (fun _ => ?_) (fun _ => ?_)
    · refine I_sub [(0, .ref x0)] [0] rfl ?_
      exact I_X6_leg_b49 hst x0
    · refine I_iload_n 2 18 dX6_leg_17 rfl rfl rfl ?_
      refine I_aload_n 0 19 dX6_leg_18 rfl rfl rfl ?_
      refine I_getA 22 dX6_leg_19 rfl cl7 (by decide) wfl_71 sameF_rfl (fun v19 => ?_)
      refine I_iconst (2 : Int32) 23 dX6_leg_22 rfl (by decide) ?_
      refine I_iload_n 1 24 dX6_leg_23 rfl rfl rfl ?_
      refine I_imul 25 dX6_leg_24 rfl ?_
      refine I_iald 26 dX6_leg_25 rfl (fun v25 => ?_)
      refine I_aload_n 0 27 dX6_leg_26 rfl rfl rfl ?_
      refine I_getA 30 dX6_leg_27 rfl cl7 (by decide) wfl_71 sameF_rfl (fun v27 => ?_)
      refine I_iconst (2 : Int32) 31 dX6_leg_30 rfl (by decide) ?_
      refine I_iload_n 1 32 dX6_leg_31 rfl rfl rfl ?_
      refine I_imul 33 dX6_leg_32 rfl ?_
      refine I_iconst (1 : Int32) 34 dX6_leg_33 rfl (by decide) ?_
      refine I_iadd 35 dX6_leg_34 rfl ?_
      refine I_iald 36 dX6_leg_35 rfl (fun v35 => ?_)
      refine I_iadd 37 dX6_leg_36 rfl ?_
      refine I_icmp_ge 49 40 dX6_leg_37 rfl rfl (fun _ => ?_) (fun _ => ?_)
      · refine I_sub [(0, .ref x0)] [0] rfl ?_
        exact I_X6_leg_b49 hst x0
      · refine I_iload_n 3 41 dX6_leg_40 rfl rfl rfl ?_
        refine I_if_lt 49 44 dX6_leg_41 rfl rfl (fun _ => ?_) (fun _ => ?_)
        · refine I_sub [(0, .ref x0)] [0] rfl ?_
          exact I_X6_leg_b49 hst x0
        · refine I_iload_n 3 45 dX6_leg_44 rfl rfl rfl ?_
          refine I_iconst (2 : Int32) 46 dX6_leg_45 rfl (by decide) ?_
          refine I_icmp_le 54 49 dX6_leg_46 rfl rfl (fun _ => ?_) (fun _ => ?_)
          · refine I_iload_n 2 55 dX6_leg_54 rfl rfl rfl ?_
            refine I_aload_n 0 56 dX6_leg_55 rfl rfl rfl ?_
            refine I_getA 59 dX6_leg_56 rfl cl7 (by decide) wfl_71 sameF_rfl (fun v56 => ?_)
            refine I_iconst (2 : Int32) 60 dX6_leg_59 rfl (by decide) ?_
            refine I_iload_n 1 61 dX6_leg_60 rfl rfl rfl ?_
            refine I_imul 62 dX6_leg_61 rfl ?_
            refine I_iald 63 dX6_leg_62 rfl (fun v62 => ?_)
            refine I_icmp_ge 76 66 dX6_leg_63 rfl rfl (fun _ => ?_) (fun _ => ?_)
            · refine I_iconst (2 : Int32) 77 dX6_leg_76 rfl (by decide) ?_
              refine I_iload_n 1 78 dX6_leg_77 rfl rfl rfl ?_
              refine I_imul 79 dX6_leg_78 rfl ?_
              refine I_iconst (1 : Int32) 80 dX6_leg_79 rfl (by decide) ?_
              refine I_iadd 81 dX6_leg_80 rfl ?_
              refine I_iload_n 2 82 dX6_leg_81 rfl rfl rfl ?_
              refine I_aload_n 0 83 dX6_leg_82 rfl rfl rfl ?_
              refine I_getA 86 dX6_leg_83 rfl cl7 (by decide) wfl_71 sameF_rfl (fun v83 => ?_)
              refine I_iconst (2 : Int32) 87 dX6_leg_86 rfl (by decide) ?_
              refine I_iload_n 1 88 dX6_leg_87 rfl rfl rfl ?_
              refine I_imul 89 dX6_leg_88 rfl ?_
              refine I_iald 90 dX6_leg_89 rfl (fun v89 => ?_)
              refine I_isub 91 dX6_leg_90 rfl ?_
              refine I_callSi (As := [.int (((2 : Int32) * x1) + (1 : Int32)), .int (x2 - v89)]) (rest := []) 94 (C_X6_legAt hst (((2 : Int32) * x1) + (1 : Int32)) (x2 - v89)) dX6_leg_91 rfl rfl (by decide) (Nat.le_of_ble_eq_true rfl) wcd_374 win_200 wml_375 wst_376 ⟨by decide, by decide, pd_X6_legAt⟩ (fun x hx => by cases hx) (fun v91 => ?_)
              refine I_sub [(0, .ref x0), (3, .int x3)] [0, 3] rfl ?_
              exact I_X6_leg_b94 hst x0 x3 v91
            · refine I_iconst (2 : Int32) 67 dX6_leg_66 rfl (by decide) ?_
              refine I_iload_n 1 68 dX6_leg_67 rfl rfl rfl ?_
              refine I_imul 69 dX6_leg_68 rfl ?_
              refine I_iload_n 2 70 dX6_leg_69 rfl rfl rfl ?_
              refine I_callSi (As := [.int ((2 : Int32) * x1), .int x2]) (rest := []) 73 (C_X6_legAt hst ((2 : Int32) * x1) x2) dX6_leg_70 rfl rfl (by decide) (Nat.le_of_ble_eq_true rfl) wcd_374 win_200 wml_375 wst_376 ⟨by decide, by decide, pd_X6_legAt⟩ (fun x hx => by cases hx) (fun v70 => ?_)
              refine I_goto 94 dX6_leg_73 rfl ?_
              refine I_sub [(0, .ref x0), (3, .int x3)] [0, 3] rfl ?_
              exact I_X6_leg_b94 hst x0 x3 v70
          · refine I_sub [(0, .ref x0)] [0] rfl ?_
            exact I_X6_leg_b49 hst x0
theorem C_X6_leg {l : Launch} {g : GX} (hst : l.stackTraces = false) (x0 : Nat) (x1 : Int32) (x2 : Int32) (x3 : Int32) : Cs l g M_X6_leg cvI [.ref x0, .int x1, .int x2, .int x3] (f_X6_leg (gt0 g) (gmi g) x0 x1 x2 x3) :=
  Cs_of_I [(0, .ref x0), (1, .int x1), (2, .int x2), (3, .int x3)] rfl (by decide) hst (Nat.le_of_ble_eq_true rfl) rfl (I_X6_leg hst x0 x1 x2 x3)
/-! LunchMarks.load(II)I -/
abbrev M_X5_load : MS := (yX5_load, cX5_load, 4, (some .int), [], 7, 103)
theorem pd_X5_load : (parseMethodDescriptor (mY M_X5_load).desc).map (fun d => d.parameters.length) = some 2 := by decide +kernel
def X5_load_b20 (t0 mi : Nat) : Mo Int32 :=
    thr "java/util/NoSuchElementException"
set_option maxRecDepth 20000 in
theorem I_X5_load_b20 {l : Launch} {g : GX} (hst : l.stackTraces = false) : I l g M_X5_load cvI 20 [] [] (X5_load_b20 (gt0 g) (gmi g)) := by
  unfold X5_load_b20
  exact I_throwX (rx := nseC) (by decide +kernel) (by decide +kernel) (by decide +kernel) (by decide +kernel) (k := 3) (names := thn) dX5_load_20 dX5_load_23 dX5_load_24 dX5_load_26 dX5_load_29 rfl rfl (by decide) (by decide) wcl_162 win_163 thN_167 tgN_167 rfl (by decide) (Nat.le_of_ble_eq_true rfl)
def f_X5_load (t0 mi : Nat) (x0 : Nat) (x1 : Int32) (x2 : Int32) : Mo Int32 :=
    bnd (vc x0 6 (f_X5_trainOf t0 mi x0 x1)) fun v2 =>
    (if x2 < 0 then
    X5_load_b20 t0 mi
    else
    bnd (gI v2 4 4) fun v12 =>
    (if x2 < (v12 - (1 : Int32)) then
    bnd (gA' v2 4 3) fun v31 =>
    bnd (ldK 0 v31 x2) fun v35 =>
    rt v35
    else
    X5_load_b20 t0 mi))
set_option maxRecDepth 20000 in
theorem I_X5_load {l : Launch} {g : GX} (hst : l.stackTraces = false) (x0 : Nat) (x1 : Int32) (x2 : Int32) : I l g M_X5_load cvI 0 [(0, .ref x0), (1, .int x1), (2, .int x2)] [] (f_X5_load (gt0 g) (gmi g) x0 x1 x2) := by
  unfold f_X5_load
  refine I_aload_n 0 1 dX5_load_0 rfl rfl rfl ?_
  refine I_iload_n 1 2 dX5_load_1 rfl rfl rfl ?_
  refine I_callVa (As := [.int x1]) (rest := []) 5 (C_X5_trainOf hst x0 x1) dX5_load_2 rfl cl6 rfl (by decide) (Nat.le_of_ble_eq_true rfl) wcd_175 win_81 wml_176 wim_177 wse_178 ⟨by decide, by decide, pd_X5_trainOf⟩ (fun x hx => by cases hx) (fun v2 => ?_)
  refine I_astore_n 6 [(3, .ref v2), (0, .ref x0), (1, .int x1), (2, .int x2)] dX5_load_5 rfl rfl (by decide) rfl ?_
  refine I_iload_n 3 7 dX5_load_6 rfl rfl rfl ?_
  refine I_if_lt 20 10 dX5_load_7 rfl rfl (fun _ => ?_) (fun _ => ?_)
  · refine I_sub [] [] rfl ?_
    exact I_X5_load_b20 hst
  · refine I_iload_n 3 11 dX5_load_10 rfl rfl rfl ?_
    refine I_aload_n 0 12 dX5_load_11 rfl rfl rfl ?_
    refine I_getI 15 dX5_load_12 rfl cl4 (by decide) wfl_533 sameF_rfl (fun v12 => ?_)
    refine I_iconst (1 : Int32) 16 dX5_load_15 rfl (by decide) ?_
    refine I_isub 17 dX5_load_16 rfl ?_
    refine I_icmp_lt 30 20 dX5_load_17 rfl rfl (fun _ => ?_) (fun _ => ?_)
    · refine I_aload_n 0 31 dX5_load_30 rfl rfl rfl ?_
      refine I_getA 34 dX5_load_31 rfl cl4 (by decide) wfl_534 sameF_rfl (fun v31 => ?_)
      refine I_iload_n 3 35 dX5_load_34 rfl rfl rfl ?_
      refine I_iald 36 dX5_load_35 rfl (fun v35 => ?_)
      exact I_iret dX5_load_36 rfl
    · refine I_sub [] [] rfl ?_
      exact I_X5_load_b20 hst
theorem C_X5_load {l : Launch} {g : GX} (hst : l.stackTraces = false) (x0 : Nat) (x1 : Int32) (x2 : Int32) : Cs l g M_X5_load cvI [.ref x0, .int x1, .int x2] (f_X5_load (gt0 g) (gmi g) x0 x1 x2) :=
  Cs_of_I [(0, .ref x0), (1, .int x1), (2, .int x2)] rfl (by decide) hst (Nat.le_of_ble_eq_true rfl) rfl (I_X5_load hst x0 x1 x2)
/-! LunchMarksLaw.load(LLunchMarks;II[J)I -/
abbrev M_L_load : MS := (yL_load, cL_load, 5, (some .int), tableOf [(0, 10, 13, 13)], 8, 126)
theorem pd_L_load : (parseMethodDescriptor (mY M_L_load).desc).map (fun d => d.parameters.length) = some 4 := by decide +kernel
def f_L_load (t0 mi : Nat) (x0 : Nat) (x1 : Int32) (x2 : Int32) (x3 : Nat) : Mo Int32 :=
    ctc (vc x0 6 (f_X5_load t0 mi x0 x1 x2)) (fun v5 =>
    bnd (stL x3 (0 : Int32) v5.toInt64) fun _ =>
    rt (0 : Int32)) (fun E =>
    (if E = "java/util/NoSuchElementException" then
    rt (1 : Int32)
    else
    flr))
set_option maxRecDepth 20000 in
theorem I_L_load {l : Launch} {g : GX} (hst : l.stackTraces = false) (x0 : Nat) (x1 : Int32) (x2 : Int32) (x3 : Nat) : I l g M_L_load cvI 0 [(0, .ref x0), (1, .int x1), (2, .int x2), (3, .ref x3)] [] (f_L_load (gt0 g) (gmi g) x0 x1 x2 x3) := by
  unfold f_L_load
  refine I_aload_n 3 1 dL_load_0 rfl rfl rfl ?_
  refine I_iconst (0 : Int32) 2 dL_load_1 rfl (by decide) ?_
  refine I_aload_n 0 3 dL_load_2 rfl rfl rfl ?_
  refine I_iload_n 1 4 dL_load_3 rfl rfl rfl ?_
  refine I_iload_n 2 5 dL_load_4 rfl rfl rfl ?_
  refine I_callVc1 (As := [.int x1, .int x2]) (rest := [.int (0 : Int32), .ref x3]) 8 (C_X5_load hst x0 x1 x2) dL_load_5 rfl cl6 rfl (by decide) (Nat.le_of_ble_eq_true rfl) wcd_535 win_81 wml_536 wim_537 wse_538 ⟨by decide, by decide, pd_X5_load⟩ rfl (by decide) (by decide) wcl_198 xc_N (fun v5 => ?_) (fun q13 => ?_)
  · refine I_i2l 9 dL_load_8 rfl ?_
    refine I_last 10 dL_load_9 rfl ?_
    refine I_goto 17 dL_load_10 rfl ?_
    refine I_iconst (0 : Int32) 18 dL_load_17 rfl (by decide) ?_
    exact I_iret dL_load_18 rfl
  · refine I_astore 15 [(4, .ref q13), (0, .ref x0), (1, .int x1), (2, .int x2), (3, .ref x3)] dL_load_13 rfl (by decide) rfl ?_
    refine I_iconst (1 : Int32) 16 dL_load_15 rfl (by decide) ?_
    exact I_iret dL_load_16 rfl
theorem C_L_load {l : Launch} {g : GX} (hst : l.stackTraces = false) (x0 : Nat) (x1 : Int32) (x2 : Int32) (x3 : Nat) : CsW l g M_L_load [(0, 10, 13, 13)] cvI [.ref x0, .int x1, .int x2, .ref x3] (f_L_load (gt0 g) (gmi g) x0 x1 x2 x3) :=
  CsW_of_I [(0, .ref x0), (1, .int x1), (2, .int x2), (3, .ref x3)] rfl (by decide) hst (Nat.le_of_ble_eq_true rfl) rfl (I_L_load hst x0 x1 x2 x3)
/-! LunchMarksModel.load(II)I -/
abbrev M_X6_load : MS := (yX6_load, cX6_load, 3, (some .int), [], 1, 21)
theorem pd_X6_load : (parseMethodDescriptor (mY M_X6_load).desc).map (fun d => d.parameters.length) = some 2 := by decide +kernel
def X6_load_b46 (t0 mi : Nat) (s0 : Int32) : Mo Int32 :=
    rt s0
set_option maxRecDepth 20000 in
theorem I_X6_load_b46 {l : Launch} {g : GX} (hst : l.stackTraces = false) (s0 : Int32) : I l g M_X6_load cvI 46 [] [.int s0] (X6_load_b46 (gt0 g) (gmi g) s0) := by
  unfold X6_load_b46
  exact I_iret dX6_load_46 rfl
def X6_load_b42 (t0 mi : Nat) (x0 : Nat) : Mo Int32 :=
    bnd (vc x0 7 (f_X6_fail t0 mi x0)) fun v43 =>
    X6_load_b46 t0 mi v43
set_option maxRecDepth 20000 in
theorem I_X6_load_b42 {l : Launch} {g : GX} (hst : l.stackTraces = false) (x0 : Nat) : I l g M_X6_load cvI 42 [(0, .ref x0)] [] (X6_load_b42 (gt0 g) (gmi g) x0) := by
  unfold X6_load_b42
  refine I_aload_n 0 43 dX6_load_42 rfl rfl rfl ?_
  refine I_callVi (As := []) (rest := []) 46 (C_X6_fail hst x0) dX6_load_43 rfl cl7 rfl (by decide) (Nat.le_of_ble_eq_true rfl) wcd_204 win_200 wml_205 wim_206 wse_207 ⟨by decide, by decide, pd_X6_fail⟩ (fun x hx => by cases hx) (fun v43 => ?_)
  refine I_sub [] [] rfl ?_
  exact I_X6_load_b46 hst v43
def f_X6_load (t0 mi : Nat) (x0 : Nat) (x1 : Int32) (x2 : Int32) : Mo Int32 :=
    bnd (pV x0 7 0 (.int (0 : Int32))) fun _ =>
    bnd (vc x0 7 (f_X6_isTrain t0 mi x0 x1)) fun v7 =>
    (if v7 = 0 then
    X6_load_b42 t0 mi x0
    else
    (if x2 < 0 then
    X6_load_b42 t0 mi x0
    else
    bnd (gA' x0 7 8) fun v19 =>
    bnd (ldK 0 v19 x1) fun v23 =>
    (if (v23 - (1 : Int32)) ≤ x2 then
    X6_load_b42 t0 mi x0
    else
    bnd (gA' x0 7 11) fun v30 =>
    bnd (f_X6_node t0 mi x1 x2) fun v35 =>
    bnd (ldK 0 v30 v35) fun v38 =>
    X6_load_b46 t0 mi v38)))
set_option maxRecDepth 20000 in
theorem I_X6_load {l : Launch} {g : GX} (hst : l.stackTraces = false) (x0 : Nat) (x1 : Int32) (x2 : Int32) : I l g M_X6_load cvI 0 [(0, .ref x0), (1, .int x1), (2, .int x2)] [] (f_X6_load (gt0 g) (gmi g) x0 x1 x2) := by
  unfold f_X6_load
  refine I_aload_n 0 1 dX6_load_0 rfl rfl rfl ?_
  refine I_iconst (0 : Int32) 2 dX6_load_1 rfl (by decide) ?_
  refine I_put 5 dX6_load_2 rfl cl7 (by decide) wfl_88 sameF_rfl rfl rfl rfl ?_
  refine I_aload_n 0 6 dX6_load_5 rfl rfl rfl ?_
  refine I_iload_n 1 7 dX6_load_6 rfl rfl rfl ?_
  refine I_callVi (As := [.int x1]) (rest := []) 10 (C_X6_isTrain hst x0 x1) dX6_load_7 rfl cl7 rfl (by decide) (Nat.le_of_ble_eq_true rfl) wcd_199 win_200 wml_201 wim_202 wse_203 ⟨by decide, by decide, pd_X6_isTrain⟩ (fun x hx => by cases hx) (fun v7 => ?_)
  refine I_if_eq 42 13 dX6_load_10 rfl rfl (fun _ => ?_) (fun _ => ?_)
  · refine I_sub [(0, .ref x0)] [0] rfl ?_
    exact I_X6_load_b42 hst x0
  · refine I_iload_n 2 14 dX6_load_13 rfl rfl rfl ?_
    refine I_if_lt 42 17 dX6_load_14 rfl rfl (fun _ => ?_) (fun _ => ?_)
    · refine I_sub [(0, .ref x0)] [0] rfl ?_
      exact I_X6_load_b42 hst x0
    · refine I_iload_n 2 18 dX6_load_17 rfl rfl rfl ?_
      refine I_aload_n 0 19 dX6_load_18 rfl rfl rfl ?_
      refine I_getA 22 dX6_load_19 rfl cl7 (by decide) wfl_54 sameF_rfl (fun v19 => ?_)
      refine I_iload_n 1 23 dX6_load_22 rfl rfl rfl ?_
      refine I_iald 24 dX6_load_23 rfl (fun v23 => ?_)
      refine I_iconst (1 : Int32) 25 dX6_load_24 rfl (by decide) ?_
      refine I_isub 26 dX6_load_25 rfl ?_
      refine I_icmp_ge 42 29 dX6_load_26 rfl rfl (fun _ => ?_) (fun _ => ?_)
      · refine I_sub [(0, .ref x0)] [0] rfl ?_
        exact I_X6_load_b42 hst x0
      · refine I_aload_n 0 30 dX6_load_29 rfl rfl rfl ?_
        refine I_getA 33 dX6_load_30 rfl cl7 (by decide) wfl_57 sameF_rfl (fun v30 => ?_)
        refine I_iload_n 1 34 dX6_load_33 rfl rfl rfl ?_
        refine I_iload_n 2 35 dX6_load_34 rfl rfl rfl ?_
        refine I_callSi (As := [.int x1, .int x2]) (rest := [.ref v30]) 38 (C_X6_node hst x1 x2) dX6_load_35 rfl rfl (by decide) (Nat.le_of_ble_eq_true rfl) wcd_208 win_200 wml_209 wst_210 ⟨by decide, by decide, pd_X6_node⟩ (fun x hx => by cases hx) (fun v35 => ?_)
        refine I_iald 39 dX6_load_38 rfl (fun v38 => ?_)
        refine I_goto 46 dX6_load_39 rfl ?_
        refine I_sub [] [] rfl ?_
        exact I_X6_load_b46 hst v38
theorem C_X6_load {l : Launch} {g : GX} (hst : l.stackTraces = false) (x0 : Nat) (x1 : Int32) (x2 : Int32) : Cs l g M_X6_load cvI [.ref x0, .int x1, .int x2] (f_X6_load (gt0 g) (gmi g) x0 x1 x2) :=
  Cs_of_I [(0, .ref x0), (1, .int x1), (2, .int x2)] rfl (by decide) hst (Nat.le_of_ble_eq_true rfl) rfl (I_X6_load hst x0 x1 x2)
/-! LunchMarks$Trip.isThereBy(I)Z -/
abbrev M_X4_isThereBy : MS := (yX4_isThereBy, cX4_isThereBy, 2, (some .boolean), [], 1, 20)
theorem pd_X4_isThereBy : (parseMethodDescriptor (mY M_X4_isThereBy).desc).map (fun d => d.parameters.length) = some 1 := by decide +kernel
def X4_isThereBy_b20 (t0 mi : Nat) (s0 : Int32) : Mo Int32 :=
    rtZ s0
set_option maxRecDepth 20000 in
theorem I_X4_isThereBy_b20 {l : Launch} {g : GX} (hst : l.stackTraces = false) (s0 : Int32) : I l g M_X4_isThereBy cvI 20 [] [.int s0] (X4_isThereBy_b20 (gt0 g) (gmi g) s0) := by
  unfold X4_isThereBy_b20
  exact I_zret dX4_isThereBy_20 rfl
def X4_isThereBy_b19 (t0 mi : Nat) : Mo Int32 :=
    X4_isThereBy_b20 t0 mi (0 : Int32)
set_option maxRecDepth 20000 in
theorem I_X4_isThereBy_b19 {l : Launch} {g : GX} (hst : l.stackTraces = false) : I l g M_X4_isThereBy cvI 19 [] [] (X4_isThereBy_b19 (gt0 g) (gmi g)) := by
  unfold X4_isThereBy_b19
  refine I_iconst (0 : Int32) 20 dX4_isThereBy_19 rfl (by decide) ?_
  refine I_sub [] [] rfl ?_
  exact I_X4_isThereBy_b20 hst (0 : Int32)
def f_X4_isThereBy (t0 mi : Nat) (x0 : Nat) (x1 : Int32) : Mo Int32 :=
    bnd (vc x0 5 (f_X4_hasWay t0 mi x0)) fun v1 =>
    (if v1 = 0 then
    X4_isThereBy_b19 t0 mi
    else
    bnd (gI x0 5 9) fun v8 =>
    (if x1 < v8 then
    X4_isThereBy_b19 t0 mi
    else
    X4_isThereBy_b20 t0 mi (1 : Int32)))
set_option maxRecDepth 20000 in
theorem I_X4_isThereBy {l : Launch} {g : GX} (hst : l.stackTraces = false) (x0 : Nat) (x1 : Int32) : I l g M_X4_isThereBy cvI 0 [(0, .ref x0), (1, .int x1)] [] (f_X4_isThereBy (gt0 g) (gmi g) x0 x1) := by
  unfold f_X4_isThereBy
  refine I_aload_n 0 1 dX4_isThereBy_0 rfl rfl rfl ?_
  refine I_callVi (As := []) (rest := []) 4 (C_X4_hasWay hst x0) dX4_isThereBy_1 rfl cl5 rfl (by decide) (Nat.le_of_ble_eq_true rfl) wcd_454 win_233 wml_455 wim_456 wse_457 ⟨by decide, by decide, pd_X4_hasWay⟩ (fun x hx => by cases hx) (fun v1 => ?_)
  refine I_if_eq 19 7 dX4_isThereBy_4 rfl rfl (fun _ => ?_) (fun _ => ?_)
  · refine I_sub [] [] rfl ?_
    exact I_X4_isThereBy_b19 hst
  · refine I_aload_n 0 8 dX4_isThereBy_7 rfl rfl rfl ?_
    refine I_getI 11 dX4_isThereBy_8 rfl cl5 (by decide) wfl_221 sameF_rfl (fun v8 => ?_)
    refine I_iload_n 1 12 dX4_isThereBy_11 rfl rfl rfl ?_
    refine I_icmp_gt 19 15 dX4_isThereBy_12 rfl rfl (fun _ => ?_) (fun _ => ?_)
    · refine I_sub [] [] rfl ?_
      exact I_X4_isThereBy_b19 hst
    · refine I_iconst (1 : Int32) 16 dX4_isThereBy_15 rfl (by decide) ?_
      refine I_goto 20 dX4_isThereBy_16 rfl ?_
      refine I_sub [] [] rfl ?_
      exact I_X4_isThereBy_b20 hst (1 : Int32)
theorem C_X4_isThereBy {l : Launch} {g : GX} (hst : l.stackTraces = false) (x0 : Nat) (x1 : Int32) : Cs l g M_X4_isThereBy cvI [.ref x0, .int x1] (f_X4_isThereBy (gt0 g) (gmi g) x0 x1) :=
  Cs_of_I [(0, .ref x0), (1, .int x1)] rfl (by decide) hst (Nat.le_of_ble_eq_true rfl) rfl (I_X4_isThereBy hst x0 x1)
/-! LunchMarks$Network.isAboard(LLunchMarks$Trip;I)Z -/
abbrev M_X2_isAboard : MS := (yX2_isAboard, cX2_isAboard, 6, (some .boolean), [], 3, 64)
theorem pd_X2_isAboard : (parseMethodDescriptor (mY M_X2_isAboard).desc).map (fun d => d.parameters.length) = some 2 := by decide +kernel
def X2_isAboard_b74 (t0 mi : Nat) (kh2 : Int32 → Mo Int32) (x0 : Nat) (x1 : Nat) (x2 : Int32) (x3 : Int32) : Mo Int32 :=
    kh2 (x3 + 1)
set_option maxRecDepth 20000 in
theorem I_X2_isAboard_b74 {l : Launch} {g : GX} (hst : l.stackTraces = false) (x0 : Nat) (x1 : Nat) (x2 : Int32) (x3 : Int32) (kh2 : Int32 → Mo Int32) (hkh2 : ∀ (z3 : Int32), I l g M_X2_isAboard cvI 2 [(0, .ref x0), (1, .ref x1), (2, .int x2), (3, .int z3)] [] (kh2 z3)) : I l g M_X2_isAboard cvI 74 [(0, .ref x0), (1, .ref x1), (2, .int x2), (3, .int x3)] [] (X2_isAboard_b74 (gt0 g) (gmi g) kh2 x0 x1 x2 x3) := by
  unfold X2_isAboard_b74
  refine I_iinc 77 (x3 + 1) [(3, .int (x3 + 1)), (0, .ref x0), (1, .ref x1), (2, .int x2)] 3 dX2_isAboard_74 rfl rfl rfl (by decide) rfl ?_
  refine I_goto 2 dX2_isAboard_77 rfl ?_
  refine I_sub [(0, .ref x0), (1, .ref x1), (2, .int x2), (3, .int (x3 + 1))] [1, 2, 3, 0] rfl ?_
  exact hkh2 (x3 + 1)
def X2_isAboard_b49 (t0 mi : Nat) (kh2 : Int32 → Mo Int32) (x0 : Nat) (x1 : Nat) (x2 : Int32) (x3 : Int32) (x4 : Nat) (s0 : Int32) : Mo Int32 :=
    (if s0 = 0 then
    X2_isAboard_b74 t0 mi kh2 x0 x1 x2 x3
    else
    bnd (gA' x4 4 2) fun v58 =>
    bnd (vc x1 5 (f_X4_legNumber t0 mi x1 x3 (2 : Int32))) fun v64 =>
    bnd (ldK 0 v58 v64) fun v67 =>
    (if v67 ≤ x2 then
    X2_isAboard_b74 t0 mi kh2 x0 x1 x2 x3
    else
    rtZ (1 : Int32)))
set_option maxRecDepth 20000 in
theorem I_X2_isAboard_b49 {l : Launch} {g : GX} (hst : l.stackTraces = false) (x0 : Nat) (x1 : Nat) (x2 : Int32) (x3 : Int32) (x4 : Nat) (s0 : Int32) (kh2 : Int32 → Mo Int32) (hkh2 : ∀ (z3 : Int32), I l g M_X2_isAboard cvI 2 [(0, .ref x0), (1, .ref x1), (2, .int x2), (3, .int z3)] [] (kh2 z3)) : I l g M_X2_isAboard cvI 49 [(0, .ref x0), (1, .ref x1), (2, .int x2), (3, .int x3), (4, .ref x4)] [.int s0] (X2_isAboard_b49 (gt0 g) (gmi g) kh2 x0 x1 x2 x3 x4 s0) := by
  unfold X2_isAboard_b49
  refine I_istore 51 [(5, .int s0), (0, .ref x0), (1, .ref x1), (2, .int x2), (3, .int x3), (4, .ref x4)] dX2_isAboard_49 rfl (by decide) rfl ?_
  refine I_iload 0 53 dX2_isAboard_51 rfl rfl ?_
  refine I_if_eq 74 56 dX2_isAboard_53 rfl rfl (fun _ => ?_) (fun _ => ?_)
  · refine I_sub [(0, .ref x0), (1, .ref x1), (2, .int x2), (3, .int x3)] [1, 2, 3, 4] rfl ?_
    exact I_X2_isAboard_b74 hst x0 x1 x2 x3 _ hkh2
  · refine I_aload 5 58 dX2_isAboard_56 rfl rfl ?_
    refine I_getA 61 dX2_isAboard_58 rfl cl4 (by decide) wfl_242 sameF_rfl (fun v58 => ?_)
    refine I_aload_n 2 62 dX2_isAboard_61 rfl rfl rfl ?_
    refine I_iload_n 4 63 dX2_isAboard_62 rfl rfl rfl ?_
    refine I_iconst (2 : Int32) 64 dX2_isAboard_63 rfl (by decide) ?_
    refine I_callVi (As := [.int x3, .int (2 : Int32)]) (rest := [.ref v58]) 67 (C_X4_legNumber hst x1 x3 (2 : Int32)) dX2_isAboard_64 rfl cl5 rfl (by decide) (Nat.le_of_ble_eq_true rfl) wcd_290 win_233 wml_291 wim_292 wse_293 ⟨by decide, by decide, pd_X4_legNumber⟩ (fun x hx => by cases hx) (fun v64 => ?_)
    refine I_iald 68 dX2_isAboard_67 rfl (fun v67 => ?_)
    refine I_iload_n 3 69 dX2_isAboard_68 rfl rfl rfl ?_
    refine I_icmp_le 74 72 dX2_isAboard_69 rfl rfl (fun _ => ?_) (fun _ => ?_)
    · refine I_sub [(0, .ref x0), (1, .ref x1), (2, .int x2), (3, .int x3)] [1, 2, 3, 4] rfl ?_
      exact I_X2_isAboard_b74 hst x0 x1 x2 x3 _ hkh2
    · refine I_iconst (1 : Int32) 73 dX2_isAboard_72 rfl (by decide) ?_
      exact I_zret dX2_isAboard_73 rfl
def X2_isAboard_L2 (t0 mi : Nat) (x0 : Nat) (x1 : Nat) (x2 : Int32) (kx : Mo Int32) : Nat → Int32 → Mo Int32
  | 0, _ => flr
  | n + 1, x3 =>
    bnd (gI x1 5 7) fun v4 =>
    (if v4 ≤ x3 then
    kx
    else
    bnd (gA' x0 3 2) fun v11 =>
    bnd (vc x1 5 (f_X4_legNumber t0 mi x1 x3 (0 : Int32))) fun v17 =>
    bnd (vc v11 0 (f_Jx4a65c_get_915e3 t0 mi v11 v17)) fun v20 =>
    bnd (isC v20 4) fun _ =>
    bnd (gA' v20 4 2) fun v30 =>
    bnd (vc x1 5 (f_X4_legNumber t0 mi x1 x3 (1 : Int32))) fun v36 =>
    bnd (ldK 0 v30 v36) fun v39 =>
    (if x2 < v39 then
    X2_isAboard_b49 t0 mi (X2_isAboard_L2 t0 mi x0 x1 x2 kx n) x0 x1 x2 x3 v20 (0 : Int32)
    else
    X2_isAboard_b49 t0 mi (X2_isAboard_L2 t0 mi x0 x1 x2 kx n) x0 x1 x2 x3 v20 (1 : Int32)))
set_option maxRecDepth 20000 in
theorem I_X2_isAboard_L2 {l : Launch} {g : GX} (hst : l.stackTraces = false) (x0 : Nat) (x1 : Nat) (x2 : Int32) (kx : Mo Int32) (hkx : I l g M_X2_isAboard cvI 80 [] [] kx) : ∀ (n : Nat) (x3 : Int32), I l g M_X2_isAboard cvI 2 [(0, .ref x0), (1, .ref x1), (2, .int x2), (3, .int x3)] [] (X2_isAboard_L2 (gt0 g) (gmi g) x0 x1 x2 kx n x3) := by
  intro n
  induction n with
  | zero => intro x3; rw [X2_isAboard_L2]; exact I_flr
  | succ n ih =>
    intro x3; rw [X2_isAboard_L2]
    refine I_iload_n 3 3 dX2_isAboard_2 rfl rfl rfl ?_
    refine I_aload_n 1 4 dX2_isAboard_3 rfl rfl rfl ?_
    refine I_getI 7 dX2_isAboard_4 rfl cl5 (by decide) wfl_289 sameF_rfl (fun v4 => ?_)
    refine I_icmp_ge 80 10 dX2_isAboard_7 rfl rfl (fun _ => ?_) (fun _ => ?_)
    · refine I_sub [] [] rfl ?_
      exact hkx
    · refine I_aload_n 0 11 dX2_isAboard_10 rfl rfl rfl ?_
      refine I_getA 14 dX2_isAboard_11 rfl cl3 (by decide) wfl_24 sameF_rfl (fun v11 => ?_)
      refine I_aload_n 1 15 dX2_isAboard_14 rfl rfl rfl ?_
      refine I_iload_n 3 16 dX2_isAboard_15 rfl rfl rfl ?_
      refine I_iconst (0 : Int32) 17 dX2_isAboard_16 rfl (by decide) ?_
      refine I_callVi (As := [.int x3, .int (0 : Int32)]) (rest := [.ref v11]) 20 (C_X4_legNumber hst x1 x3 (0 : Int32)) dX2_isAboard_17 rfl cl5 rfl (by decide) (Nat.le_of_ble_eq_true rfl) wcd_290 win_233 wml_291 wim_292 wse_293 ⟨by decide, by decide, pd_X4_legNumber⟩ (fun x hx => by cases hx) (fun v17 => ?_)
      refine I_callVa (As := [.int v17]) (rest := []) 23 (C_Jx4a65c_get_915e3 hst v11 v17) dX2_isAboard_20 rfl cl0 rfl (by decide) (Nat.le_of_ble_eq_true rfl) wcd_166 win_20 wml_258 wim_168 wse_169 ⟨by decide, by decide, pd_Jx4a65c_get_915e3⟩ (fun x hx => by cases hx) (fun v20 => ?_)
      refine I_cast 26 dX2_isAboard_23 rfl cl4 wcl_135 ?_
      refine I_astore 28 [(4, .ref v20), (0, .ref x0), (1, .ref x1), (2, .int x2), (3, .int x3)] dX2_isAboard_26 rfl (by decide) rfl ?_
      refine I_aload 0 30 dX2_isAboard_28 rfl rfl ?_
      refine I_getA 33 dX2_isAboard_30 rfl cl4 (by decide) wfl_242 sameF_rfl (fun v30 => ?_)
      refine I_aload_n 2 34 dX2_isAboard_33 rfl rfl rfl ?_
      refine I_iload_n 4 35 dX2_isAboard_34 rfl rfl rfl ?_
      refine I_iconst (1 : Int32) 36 dX2_isAboard_35 rfl (by decide) ?_
      refine I_callVi (As := [.int x3, .int (1 : Int32)]) (rest := [.ref v30]) 39 (C_X4_legNumber hst x1 x3 (1 : Int32)) dX2_isAboard_36 rfl cl5 rfl (by decide) (Nat.le_of_ble_eq_true rfl) wcd_290 win_233 wml_291 wim_292 wse_293 ⟨by decide, by decide, pd_X4_legNumber⟩ (fun x hx => by cases hx) (fun v36 => ?_)
      refine I_iald 40 dX2_isAboard_39 rfl (fun v39 => ?_)
      refine I_iload_n 3 41 dX2_isAboard_40 rfl rfl rfl ?_
      refine I_icmp_gt 48 44 dX2_isAboard_41 rfl rfl (fun _ => ?_) (fun _ => ?_)
      · refine I_iconst (0 : Int32) 49 dX2_isAboard_48 rfl (by decide) ?_
        refine I_sub [(0, .ref x0), (1, .ref x1), (2, .int x2), (3, .int x3), (4, .ref v20)] [1, 2, 3, 4, 0] rfl ?_
        exact I_X2_isAboard_b49 hst x0 x1 x2 x3 v20 (0 : Int32) _ ih
      · refine I_iconst (1 : Int32) 45 dX2_isAboard_44 rfl (by decide) ?_
        refine I_goto 49 dX2_isAboard_45 rfl ?_
        refine I_sub [(0, .ref x0), (1, .ref x1), (2, .int x2), (3, .int x3), (4, .ref v20)] [1, 2, 3, 4, 0] rfl ?_
        exact I_X2_isAboard_b49 hst x0 x1 x2 x3 v20 (1 : Int32) _ ih
def f_X2_isAboard (t0 mi : Nat) (x0 : Nat) (x1 : Nat) (x2 : Int32) : Mo Int32 :=
    X2_isAboard_L2 t0 mi x0 x1 x2 (rtZ (0 : Int32)) FU (0 : Int32)
set_option maxRecDepth 20000 in
theorem I_X2_isAboard {l : Launch} {g : GX} (hst : l.stackTraces = false) (x0 : Nat) (x1 : Nat) (x2 : Int32) : I l g M_X2_isAboard cvI 0 [(0, .ref x0), (1, .ref x1), (2, .int x2)] [] (f_X2_isAboard (gt0 g) (gmi g) x0 x1 x2) := by
  unfold f_X2_isAboard
  refine I_iconst (0 : Int32) 1 dX2_isAboard_0 rfl (by decide) ?_
  refine I_istore_n 2 [(3, .int (0 : Int32)), (0, .ref x0), (1, .ref x1), (2, .int x2)] dX2_isAboard_1 rfl rfl (by decide) rfl ?_
  refine I_sub [(0, .ref x0), (1, .ref x1), (2, .int x2), (3, .int (0 : Int32))] [1, 2, 3, 0] rfl ?_
  refine I_X2_isAboard_L2 hst x0 x1 x2 _ ?_ FU (0 : Int32)
  refine I_iconst (0 : Int32) 81 dX2_isAboard_80 rfl (by decide) ?_
  exact I_zret dX2_isAboard_81 rfl
theorem C_X2_isAboard {l : Launch} {g : GX} (hst : l.stackTraces = false) (x0 : Nat) (x1 : Nat) (x2 : Int32) : Cs l g M_X2_isAboard cvI [.ref x0, .ref x1, .int x2] (f_X2_isAboard (gt0 g) (gmi g) x0 x1 x2) :=
  Cs_of_I [(0, .ref x0), (1, .ref x1), (2, .int x2)] rfl (by decide) hst (Nat.le_of_ble_eq_true rfl) rfl (I_X2_isAboard hst x0 x1 x2)
/-! LunchMarks.where(I)I -/
abbrev M_X5_where : MS := (yX5_where, cX5_where, 3, (some .int), [], 7, 103)
theorem pd_X5_where : (parseMethodDescriptor (mY M_X5_where).desc).map (fun d => d.parameters.length) = some 1 := by decide +kernel
def X5_where_b68 (t0 mi : Nat) (s0 : Int32) : Mo Int32 :=
    rt s0
set_option maxRecDepth 20000 in
theorem I_X5_where_b68 {l : Launch} {g : GX} (hst : l.stackTraces = false) (s0 : Int32) : I l g M_X5_where cvI 68 [] [.int s0] (X5_where_b68 (gt0 g) (gmi g) s0) := by
  unfold X5_where_b68
  exact I_iret dX5_where_68 rfl
def f_X5_where (t0 mi : Nat) (x0 : Nat) (x1 : Int32) : Mo Int32 :=
    bnd (vc x0 6 (f_X5_boxOf t0 mi x0 x1)) fun v2 =>
    bnd (vc v2 1 (f_X0_current t0 mi v2)) fun v5 =>
    bnd (gI x0 6 4) fun v11 =>
    bnd (vc v5 5 (f_X4_isGoneBy t0 mi v5 v11)) fun v14 =>
    (if v14 = 0 then
    rt (0 : Int32)
    else
    bnd (gI x0 6 4) fun v24 =>
    bnd (vc v5 5 (f_X4_hasArrivedBy t0 mi v5 v24)) fun v27 =>
    (if v27 = 0 then
    bnd (gI x0 6 4) fun v37 =>
    bnd (vc v5 5 (f_X4_isThereBy t0 mi v5 v37)) fun v40 =>
    (if v40 = 0 then
    bnd (gA' x0 6 0) fun v49 =>
    bnd (gI x0 6 4) fun v54 =>
    bnd (vc v49 3 (f_X2_isAboard t0 mi v49 v5 v54)) fun v57 =>
    (if v57 = 0 then
    X5_where_b68 t0 mi (1 : Int32)
    else
    X5_where_b68 t0 mi (2 : Int32))
    else
    rt (3 : Int32))
    else
    rt (4 : Int32)))
set_option maxRecDepth 20000 in
theorem I_X5_where {l : Launch} {g : GX} (hst : l.stackTraces = false) (x0 : Nat) (x1 : Int32) : I l g M_X5_where cvI 0 [(0, .ref x0), (1, .int x1)] [] (f_X5_where (gt0 g) (gmi g) x0 x1) := by
  unfold f_X5_where
  refine I_aload_n 0 1 dX5_where_0 rfl rfl rfl ?_
  refine I_iload_n 1 2 dX5_where_1 rfl rfl rfl ?_
  refine I_callVa (As := [.int x1]) (rest := []) 5 (C_X5_boxOf hst x0 x1) dX5_where_2 rfl cl6 rfl (by decide) (Nat.le_of_ble_eq_true rfl) wcd_464 win_81 wml_465 wim_466 wse_467 ⟨by decide, by decide, pd_X5_boxOf⟩ (fun x hx => by cases hx) (fun v2 => ?_)
  refine I_callVa (As := []) (rest := []) 8 (C_X0_current hst v2) dX5_where_5 rfl cl1 rfl (by decide) (Nat.le_of_ble_eq_true rfl) wcd_332 win_230 wml_333 wim_334 wse_335 ⟨by decide, by decide, pd_X0_current⟩ (fun x hx => by cases hx) (fun v5 => ?_)
  refine I_astore_n 9 [(2, .ref v5), (0, .ref x0), (1, .int x1)] dX5_where_8 rfl rfl (by decide) rfl ?_
  refine I_aload_n 0 10 dX5_where_9 rfl rfl rfl ?_
  refine I_aload_n 1 11 dX5_where_10 rfl rfl rfl ?_
  refine I_getI 14 dX5_where_11 rfl cl6 (by decide) wfl_50 sameF_rfl (fun v11 => ?_)
  refine I_callVi (As := [.int v11]) (rest := []) 17 (C_X4_isGoneBy hst v5 v11) dX5_where_14 rfl cl5 rfl (by decide) (Nat.le_of_ble_eq_true rfl) wcd_496 win_233 wml_497 wim_498 wse_499 ⟨by decide, by decide, pd_X4_isGoneBy⟩ (fun x hx => by cases hx) (fun v14 => ?_)
  refine I_if_ne 22 20 dX5_where_17 rfl rfl (fun _ => ?_) (fun _ => ?_)
  · refine I_iconst (0 : Int32) 21 dX5_where_20 rfl (by decide) ?_
    exact I_iret dX5_where_21 rfl
  · refine I_aload_n 0 23 dX5_where_22 rfl rfl rfl ?_
    refine I_aload_n 1 24 dX5_where_23 rfl rfl rfl ?_
    refine I_getI 27 dX5_where_24 rfl cl6 (by decide) wfl_50 sameF_rfl (fun v24 => ?_)
    refine I_callVi (As := [.int v24]) (rest := []) 30 (C_X4_hasArrivedBy hst v5 v24) dX5_where_27 rfl cl5 rfl (by decide) (Nat.le_of_ble_eq_true rfl) wcd_473 win_233 wml_474 wim_475 wse_476 ⟨by decide, by decide, pd_X4_hasArrivedBy⟩ (fun x hx => by cases hx) (fun v27 => ?_)
    refine I_if_eq 35 33 dX5_where_30 rfl rfl (fun _ => ?_) (fun _ => ?_)
    · refine I_aload_n 0 36 dX5_where_35 rfl rfl rfl ?_
      refine I_aload_n 1 37 dX5_where_36 rfl rfl rfl ?_
      refine I_getI 40 dX5_where_37 rfl cl6 (by decide) wfl_50 sameF_rfl (fun v37 => ?_)
      refine I_callVi (As := [.int v37]) (rest := []) 43 (C_X4_isThereBy hst v5 v37) dX5_where_40 rfl cl5 rfl (by decide) (Nat.le_of_ble_eq_true rfl) wcd_539 win_233 wml_540 wim_541 wse_542 ⟨by decide, by decide, pd_X4_isThereBy⟩ (fun x hx => by cases hx) (fun v40 => ?_)
      refine I_if_eq 48 46 dX5_where_43 rfl rfl (fun _ => ?_) (fun _ => ?_)
      · refine I_aload_n 1 49 dX5_where_48 rfl rfl rfl ?_
        refine I_getA 52 dX5_where_49 rfl cl6 (by decide) wfl_38 sameF_rfl (fun v49 => ?_)
        refine I_aload_n 0 53 dX5_where_52 rfl rfl rfl ?_
        refine I_aload_n 1 54 dX5_where_53 rfl rfl rfl ?_
        refine I_getI 57 dX5_where_54 rfl cl6 (by decide) wfl_50 sameF_rfl (fun v54 => ?_)
        refine I_callVi (As := [.ref v5, .int v54]) (rest := []) 60 (C_X2_isAboard hst v49 v5 v54) dX5_where_57 rfl cl3 rfl (by decide) (Nat.le_of_ble_eq_true rfl) wcd_543 win_34 wml_544 wim_545 wse_546 ⟨by decide, by decide, pd_X2_isAboard⟩ (fun x hx => by cases hx) (fun v57 => ?_)
        refine I_if_eq 67 63 dX5_where_60 rfl rfl (fun _ => ?_) (fun _ => ?_)
        · refine I_iconst (1 : Int32) 68 dX5_where_67 rfl (by decide) ?_
          refine I_sub [] [] rfl ?_
          exact I_X5_where_b68 hst (1 : Int32)
        · refine I_iconst (2 : Int32) 64 dX5_where_63 rfl (by decide) ?_
          refine I_goto 68 dX5_where_64 rfl ?_
          refine I_sub [] [] rfl ?_
          exact I_X5_where_b68 hst (2 : Int32)
      · refine I_iconst (3 : Int32) 47 dX5_where_46 rfl (by decide) ?_
        exact I_iret dX5_where_47 rfl
    · refine I_iconst (4 : Int32) 34 dX5_where_33 rfl (by decide) ?_
      exact I_iret dX5_where_34 rfl
theorem C_X5_where {l : Launch} {g : GX} (hst : l.stackTraces = false) (x0 : Nat) (x1 : Int32) : Cs l g M_X5_where cvI [.ref x0, .int x1] (f_X5_where (gt0 g) (gmi g) x0 x1) :=
  Cs_of_I [(0, .ref x0), (1, .int x1)] rfl (by decide) hst (Nat.le_of_ble_eq_true rfl) rfl (I_X5_where hst x0 x1)
/-! LunchMarksLaw.where(LLunchMarks;I[J)I -/
abbrev M_L_where : MS := (yL_where, cL_where, 4, (some .int), tableOf [(0, 9, 12, 13)], 8, 125)
theorem pd_L_where : (parseMethodDescriptor (mY M_L_where).desc).map (fun d => d.parameters.length) = some 3 := by decide +kernel
def f_L_where (t0 mi : Nat) (x0 : Nat) (x1 : Int32) (x2 : Nat) : Mo Int32 :=
    ctc (vc x0 6 (f_X5_where t0 mi x0 x1)) (fun v4 =>
    bnd (stL x2 (0 : Int32) v4.toInt64) fun _ =>
    rt (0 : Int32)) (fun E =>
    (if E = "java/util/NoSuchElementException" then
    rt (1 : Int32)
    else
    flr))
set_option maxRecDepth 20000 in
theorem I_L_where {l : Launch} {g : GX} (hst : l.stackTraces = false) (x0 : Nat) (x1 : Int32) (x2 : Nat) : I l g M_L_where cvI 0 [(0, .ref x0), (1, .int x1), (2, .ref x2)] [] (f_L_where (gt0 g) (gmi g) x0 x1 x2) := by
  unfold f_L_where
  refine I_aload_n 2 1 dL_where_0 rfl rfl rfl ?_
  refine I_iconst (0 : Int32) 2 dL_where_1 rfl (by decide) ?_
  refine I_aload_n 0 3 dL_where_2 rfl rfl rfl ?_
  refine I_iload_n 1 4 dL_where_3 rfl rfl rfl ?_
  refine I_callVc1 (As := [.int x1]) (rest := [.int (0 : Int32), .ref x2]) 7 (C_X5_where hst x0 x1) dL_where_4 rfl cl6 rfl (by decide) (Nat.le_of_ble_eq_true rfl) wcd_547 win_81 wml_548 wim_549 wse_550 ⟨by decide, by decide, pd_X5_where⟩ rfl (by decide) (by decide) wcl_198 xc_N (fun v4 => ?_) (fun q12 => ?_)
  · refine I_i2l 8 dL_where_7 rfl ?_
    refine I_last 9 dL_where_8 rfl ?_
    refine I_goto 15 dL_where_9 rfl ?_
    refine I_iconst (0 : Int32) 16 dL_where_15 rfl (by decide) ?_
    exact I_iret dL_where_16 rfl
  · refine I_astore_n 13 [(3, .ref q12), (0, .ref x0), (1, .int x1), (2, .ref x2)] dL_where_12 rfl rfl (by decide) rfl ?_
    refine I_iconst (1 : Int32) 14 dL_where_13 rfl (by decide) ?_
    exact I_iret dL_where_14 rfl
theorem C_L_where {l : Launch} {g : GX} (hst : l.stackTraces = false) (x0 : Nat) (x1 : Int32) (x2 : Nat) : CsW l g M_L_where [(0, 9, 12, 13)] cvI [.ref x0, .int x1, .ref x2] (f_L_where (gt0 g) (gmi g) x0 x1 x2) :=
  CsW_of_I [(0, .ref x0), (1, .int x1), (2, .ref x2)] rfl (by decide) hst (Nat.le_of_ble_eq_true rfl) rfl (I_L_where hst x0 x1 x2)
