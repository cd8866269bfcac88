/-! LunchMarks$Trip.hasArrivedBy(I)Z -/
abbrev M_X4_hasArrivedBy : MS := (yX4_hasArrivedBy, cX4_hasArrivedBy, 2, (some .boolean), [], 2, 40)
theorem pd_X4_hasArrivedBy : (parseMethodDescriptor (mY M_X4_hasArrivedBy).desc).map (fun d => d.parameters.length) = some 1 := by decide +kernel
def X4_hasArrivedBy_b20 (t0 mi : Nat) (s0 : Int32) : Mo Int32 :=
    rtZ s0
set_option maxRecDepth 20000 in
theorem I_X4_hasArrivedBy_b20 {l : Launch} {g : GX} (hst : l.stackTraces = false) (s0 : Int32) : I l g M_X4_hasArrivedBy cvI 20 [] [.int s0] (X4_hasArrivedBy_b20 (gt0 g) (gmi g) s0) := by
  unfold X4_hasArrivedBy_b20
  exact I_zret dX4_hasArrivedBy_20 rfl
def X4_hasArrivedBy_b19 (t0 mi : Nat) : Mo Int32 :=
    X4_hasArrivedBy_b20 t0 mi (0 : Int32)
set_option maxRecDepth 20000 in
theorem I_X4_hasArrivedBy_b19 {l : Launch} {g : GX} (hst : l.stackTraces = false) : I l g M_X4_hasArrivedBy cvI 19 [] [] (X4_hasArrivedBy_b19 (gt0 g) (gmi g)) := by
  unfold X4_hasArrivedBy_b19
  refine I_iconst (0 : Int32) 20 dX4_hasArrivedBy_19 rfl (by decide) ?_
  refine I_sub [] [] rfl ?_
  exact I_X4_hasArrivedBy_b20 hst (0 : Int32)
def f_X4_hasArrivedBy (t0 mi : Nat) (x0 : Nat) (x1 : Int32) : Mo Int32 :=
    bnd (vc x0 5 (f_X4_hasWay t0 mi x0)) fun v1 =>
    (if v1 = 0 then
    X4_hasArrivedBy_b19 t0 mi
    else
    bnd (vc x0 5 (f_X4_arrival t0 mi x0)) fun v8 =>
    (if x1 < v8 then
    X4_hasArrivedBy_b19 t0 mi
    else
    X4_hasArrivedBy_b20 t0 mi (1 : Int32)))
set_option maxRecDepth 20000 in
theorem I_X4_hasArrivedBy {l : Launch} {g : GX} (hst : l.stackTraces = false) (x0 : Nat) (x1 : Int32) : I l g M_X4_hasArrivedBy cvI 0 [(0, .ref x0), (1, .int x1)] [] (f_X4_hasArrivedBy (gt0 g) (gmi g) x0 x1) := by
  unfold f_X4_hasArrivedBy
  refine I_aload_n 0 1 dX4_hasArrivedBy_0 rfl rfl rfl ?_
  refine I_callVi (As := []) (rest := []) 4 (C_X4_hasWay hst x0) dX4_hasArrivedBy_1 rfl cl5 rfl (by decide) (Nat.le_of_ble_eq_true rfl) wcd_454 win_233 wml_455 wim_456 wse_457 ⟨by decide, by decide, pd_X4_hasWay⟩ (fun x hx => by cases hx) (fun v1 => ?_)
  refine I_if_eq 19 7 dX4_hasArrivedBy_4 rfl rfl (fun _ => ?_) (fun _ => ?_)
  · refine I_sub [] [] rfl ?_
    exact I_X4_hasArrivedBy_b19 hst
  · refine I_aload_n 0 8 dX4_hasArrivedBy_7 rfl rfl rfl ?_
    refine I_callVi (As := []) (rest := []) 11 (C_X4_arrival hst x0) dX4_hasArrivedBy_8 rfl cl5 rfl (by decide) (Nat.le_of_ble_eq_true rfl) wcd_458 win_233 wml_459 wim_460 wse_461 ⟨by decide, by decide, pd_X4_arrival⟩ (fun x hx => by cases hx) (fun v8 => ?_)
    refine I_iload_n 1 12 dX4_hasArrivedBy_11 rfl rfl rfl ?_
    refine I_icmp_gt 19 15 dX4_hasArrivedBy_12 rfl rfl (fun _ => ?_) (fun _ => ?_)
    · refine I_sub [] [] rfl ?_
      exact I_X4_hasArrivedBy_b19 hst
    · refine I_iconst (1 : Int32) 16 dX4_hasArrivedBy_15 rfl (by decide) ?_
      refine I_goto 20 dX4_hasArrivedBy_16 rfl ?_
      refine I_sub [] [] rfl ?_
      exact I_X4_hasArrivedBy_b20 hst (1 : Int32)
theorem C_X4_hasArrivedBy {l : Launch} {g : GX} (hst : l.stackTraces = false) (x0 : Nat) (x1 : Int32) : Cs l g M_X4_hasArrivedBy cvI [.ref x0, .int x1] (f_X4_hasArrivedBy (gt0 g) (gmi g) x0 x1) :=
  Cs_of_I [(0, .ref x0), (1, .int x1)] rfl (by decide) hst (Nat.le_of_ble_eq_true rfl) rfl (I_X4_hasArrivedBy hst x0 x1)
/-! LunchMarks$Trip.turned(II)LLunchMarks$Trip; -/
abbrev M_X4_turned : MS := (yX4_turned, cX4_turned, 3, (some (.object "LunchMarks$Trip")), [], 2, 38)
theorem pd_X4_turned : (parseMethodDescriptor (mY M_X4_turned).desc).map (fun d => d.parameters.length) = some 2 := by decide +kernel
def f_X4_turned (t0 mi : Nat) (x0 : Nat) (x1 : Int32) (x2 : Int32) : Mo Nat :=
    bnd (newO 5 13 [.int 0, .int 0, .int 0, .int 0, .int 0, .int 0, .null, .int 0, .int 0, .int 0, .int 0, .int 0, .int 0]) fun v0 =>
    bnd (gI x0 5 3) fun v5 =>
    bnd (gI x0 5 4) fun v9 =>
    bnd (gI x0 5 0) fun v14 =>
    bnd (gI x0 5 1) fun v18 =>
    bnd (f_X4_init t0 mi v0 v5 v9 x1 v14 v18 x2) fun _ =>
    rt v0
set_option maxRecDepth 20000 in
theorem I_X4_turned {l : Launch} {g : GX} (hst : l.stackTraces = false) (x0 : Nat) (x1 : Int32) (x2 : Int32) : I l g M_X4_turned cvA 0 [(0, .ref x0), (1, .int x1), (2, .int x2)] [] (f_X4_turned (gt0 g) (gmi g) x0 x1 x2) := by
  unfold f_X4_turned
  refine I_new 3 dX4_turned_0 rfl cl5 wcl_462 wit_232 win_233 df5 (fun v0 => ?_)
  refine I_dup 4 dX4_turned_3 rfl rfl ?_
  refine I_aload_n 0 5 dX4_turned_4 rfl rfl rfl ?_
  refine I_getI 8 dX4_turned_5 rfl cl5 (by decide) wfl_215 sameF_rfl (fun v5 => ?_)
  refine I_aload_n 0 9 dX4_turned_8 rfl rfl rfl ?_
  refine I_getI 12 dX4_turned_9 rfl cl5 (by decide) wfl_216 sameF_rfl (fun v9 => ?_)
  refine I_iload_n 1 13 dX4_turned_12 rfl rfl rfl ?_
  refine I_aload_n 0 14 dX4_turned_13 rfl rfl rfl ?_
  refine I_getI 17 dX4_turned_14 rfl cl5 (by decide) wfl_212 sameF_rfl (fun v14 => ?_)
  refine I_aload_n 0 18 dX4_turned_17 rfl rfl rfl ?_
  refine I_getI 21 dX4_turned_18 rfl cl5 (by decide) wfl_213 sameF_rfl (fun v18 => ?_)
  refine I_iload_n 2 22 dX4_turned_21 rfl rfl rfl ?_
  refine I_init (As := [.int v5, .int v9, .int x1, .int v14, .int v18, .int x2]) (rest := [.ref v0]) 25 (C_X4_init hst v0 v5 v9 x1 v14 v18 x2) (noT_X4_init _ _ _ _ _ _ _ _ _) dX4_turned_22 rfl rfl rfl (by decide) (Nat.le_of_ble_eq_true rfl) wcd_234 win_233 wml_463 wim_236 rfl ⟨by decide, by decide, pd_X4_init⟩ ?_
  exact I_aret dX4_turned_25 rfl (Or.inl ⟨_, rfl⟩)
theorem C_X4_turned {l : Launch} {g : GX} (hst : l.stackTraces = false) (x0 : Nat) (x1 : Int32) (x2 : Int32) : Cs l g M_X4_turned cvA [.ref x0, .int x1, .int x2] (f_X4_turned (gt0 g) (gmi g) x0 x1 x2) :=
  Cs_of_I [(0, .ref x0), (1, .int x1), (2, .int x2)] rfl (by decide) hst (Nat.le_of_ble_eq_true rfl) rfl (I_X4_turned hst x0 x1 x2)
/-! LunchMarks.empty(II)Z -/
abbrev M_X5_empty : MS := (yX5_empty, cX5_empty, 4, (some .boolean), [], 7, 103)
theorem pd_X5_empty : (parseMethodDescriptor (mY M_X5_empty).desc).map (fun d => d.parameters.length) = some 2 := by decide +kernel
def X5_empty_b27 (t0 mi : Nat) : Mo Int32 :=
    rtZ (0 : Int32)
set_option maxRecDepth 20000 in
theorem I_X5_empty_b27 {l : Launch} {g : GX} (hst : l.stackTraces = false) : I l g M_X5_empty cvI 27 [] [] (X5_empty_b27 (gt0 g) (gmi g)) := by
  unfold X5_empty_b27
  refine I_iconst (0 : Int32) 28 dX5_empty_27 rfl (by decide) ?_
  exact I_zret dX5_empty_28 rfl
def X5_empty_b44 (t0 mi : Nat) : Mo Int32 :=
    rtZ (0 : Int32)
set_option maxRecDepth 20000 in
theorem I_X5_empty_b44 {l : Launch} {g : GX} (hst : l.stackTraces = false) : I l g M_X5_empty cvI 44 [] [] (X5_empty_b44 (gt0 g) (gmi g)) := by
  unfold X5_empty_b44
  refine I_iconst (0 : Int32) 45 dX5_empty_44 rfl (by decide) ?_
  exact I_zret dX5_empty_45 rfl
def f_X5_empty (t0 mi : Nat) (x0 : Nat) (x1 : Int32) (x2 : Int32) : Mo Int32 :=
    bnd (vc x0 6 (f_X5_boxOf t0 mi x0 x1)) fun v2 =>
    bnd (vc v2 1 (f_X0_isEmpty t0 mi v2)) fun v7 =>
    (if v7 = 0 then
    bnd (gA' v2 1 0) fun v14 =>
    bnd (gI x0 6 4) fun v18 =>
    bnd (vc v14 5 (f_X4_hasArrivedBy t0 mi v14 v18)) fun v21 =>
    (if v21 = 0 then
    X5_empty_b27 t0 mi
    else
    bnd (f_X5_isMinute t0 mi x2) fun v30 =>
    (if v30 = 0 then
    X5_empty_b44 t0 mi
    else
    bnd (gI x0 6 4) fun v38 =>
    (if v38 ≤ x2 then
    bnd (gA' v2 1 0) fun v48 =>
    bnd (vc v48 5 (f_X4_turned t0 mi v48 x2 (1439 : Int32))) fun v55 =>
    bnd (pV v2 1 1 (.ref v55)) fun _ =>
    rtZ (1 : Int32)
    else
    X5_empty_b44 t0 mi)))
    else
    X5_empty_b27 t0 mi)
set_option maxRecDepth 20000 in
theorem I_X5_empty {l : Launch} {g : GX} (hst : l.stackTraces = false) (x0 : Nat) (x1 : Int32) (x2 : Int32) : I l g M_X5_empty cvI 0 [(0, .ref x0), (1, .int x1), (2, .int x2)] [] (f_X5_empty (gt0 g) (gmi g) x0 x1 x2) := by
  unfold f_X5_empty
  refine I_aload_n 0 1 dX5_empty_0 rfl rfl rfl ?_
  refine I_iload_n 1 2 dX5_empty_1 rfl rfl rfl ?_
  refine I_callVa (As := [.int x1]) (rest := []) 5 (C_X5_boxOf hst x0 x1) dX5_empty_2 rfl cl6 rfl (by decide) (Nat.le_of_ble_eq_true rfl) wcd_464 win_81 wml_465 wim_466 wse_467 ⟨by decide, by decide, pd_X5_boxOf⟩ (fun x hx => by cases hx) (fun v2 => ?_)
  refine I_astore_n 6 [(3, .ref v2), (0, .ref x0), (1, .int x1), (2, .int x2)] dX5_empty_5 rfl rfl (by decide) rfl ?_
  refine I_aload_n 0 7 dX5_empty_6 rfl rfl rfl ?_
  refine I_callVi (As := []) (rest := []) 10 (C_X0_isEmpty hst v2) dX5_empty_7 rfl cl1 rfl (by decide) (Nat.le_of_ble_eq_true rfl) wcd_468 win_230 wml_469 wim_470 wse_471 ⟨by decide, by decide, pd_X0_isEmpty⟩ (fun x hx => by cases hx) (fun v7 => ?_)
  refine I_if_ne 27 13 dX5_empty_10 rfl rfl (fun _ => ?_) (fun _ => ?_)
  · refine I_aload_n 0 14 dX5_empty_13 rfl rfl rfl ?_
    refine I_getA 17 dX5_empty_14 rfl cl1 (by decide) wfl_472 sameF_rfl (fun v14 => ?_)
    refine I_aload_n 1 18 dX5_empty_17 rfl rfl rfl ?_
    refine I_getI 21 dX5_empty_18 rfl cl6 (by decide) wfl_50 sameF_rfl (fun v18 => ?_)
    refine I_callVi (As := [.int v18]) (rest := []) 24 (C_X4_hasArrivedBy hst v14 v18) dX5_empty_21 rfl cl5 rfl (by decide) (Nat.le_of_ble_eq_true rfl) wcd_473 win_233 wml_474 wim_475 wse_476 ⟨by decide, by decide, pd_X4_hasArrivedBy⟩ (fun x hx => by cases hx) (fun v21 => ?_)
    refine I_if_ne 29 27 dX5_empty_24 rfl rfl (fun _ => ?_) (fun _ => ?_)
    · refine I_sub [] [] rfl ?_
      exact I_X5_empty_b27 hst
    · refine I_iload_n 3 30 dX5_empty_29 rfl rfl rfl ?_
      refine I_callSi (As := [.int x2]) (rest := []) 33 (C_X5_isMinute hst x2) dX5_empty_30 rfl rfl (by decide) (Nat.le_of_ble_eq_true rfl) wcd_183 win_81 wml_184 wst_185 ⟨by decide, by decide, pd_X5_isMinute⟩ (fun x hx => by cases hx) (fun v30 => ?_)
      refine I_if_eq 44 36 dX5_empty_33 rfl rfl (fun _ => ?_) (fun _ => ?_)
      · refine I_sub [] [] rfl ?_
        exact I_X5_empty_b44 hst
      · refine I_iload_n 3 37 dX5_empty_36 rfl rfl rfl ?_
        refine I_aload_n 1 38 dX5_empty_37 rfl rfl rfl ?_
        refine I_getI 41 dX5_empty_38 rfl cl6 (by decide) wfl_50 sameF_rfl (fun v38 => ?_)
        refine I_icmp_ge 46 44 dX5_empty_41 rfl rfl (fun _ => ?_) (fun _ => ?_)
        · refine I_aload_n 0 47 dX5_empty_46 rfl rfl rfl ?_
          refine I_aload_n 0 48 dX5_empty_47 rfl rfl rfl ?_
          refine I_getA 51 dX5_empty_48 rfl cl1 (by decide) wfl_472 sameF_rfl (fun v48 => ?_)
          refine I_iload_n 3 52 dX5_empty_51 rfl rfl rfl ?_
          refine I_sipush (1439 : Int32) 55 dX5_empty_52 rfl (by decide) ?_
          refine I_callVa (As := [.int x2, .int (1439 : Int32)]) (rest := [.ref v2]) 58 (C_X4_turned hst v48 x2 (1439 : Int32)) dX5_empty_55 rfl cl5 rfl (by decide) (Nat.le_of_ble_eq_true rfl) wcd_477 win_233 wml_478 wim_479 wse_480 ⟨by decide, by decide, pd_X4_turned⟩ (fun x hx => by cases hx) (fun v55 => ?_)
          refine I_put 61 dX5_empty_58 rfl cl1 (by decide) wfl_481 sameF_rfl rfl rfl rfl ?_
          refine I_iconst (1 : Int32) 62 dX5_empty_61 rfl (by decide) ?_
          exact I_zret dX5_empty_62 rfl
        · refine I_sub [] [] rfl ?_
          exact I_X5_empty_b44 hst
  · refine I_sub [] [] rfl ?_
    exact I_X5_empty_b27 hst
theorem C_X5_empty {l : Launch} {g : GX} (hst : l.stackTraces = false) (x0 : Nat) (x1 : Int32) (x2 : Int32) : Cs l g M_X5_empty cvI [.ref x0, .int x1, .int x2] (f_X5_empty (gt0 g) (gmi g) x0 x1 x2) :=
  Cs_of_I [(0, .ref x0), (1, .int x1), (2, .int x2)] rfl (by decide) hst (Nat.le_of_ble_eq_true rfl) rfl (I_X5_empty hst x0 x1 x2)
/-! LunchMarksLaw.empty(LLunchMarks;II[J)I -/
abbrev M_L_empty : MS := (yL_empty, cL_empty, 5, (some .int), tableOf [(0, 17, 20, 13)], 8, 126)
theorem pd_L_empty : (parseMethodDescriptor (mY M_L_empty).desc).map (fun d => d.parameters.length) = some 4 := by decide +kernel
def L_empty_b16 (t0 mi : Nat) (s0 : Int64) (s1 : Int32) (s2 : Nat) : Mo Int32 :=
    bnd (stL s2 s1 s0) fun _ =>
    rt (0 : Int32)
set_option maxRecDepth 20000 in
theorem I_L_empty_b16 {l : Launch} {g : GX} (hst : l.stackTraces = false) (s0 : Int64) (s1 : Int32) (s2 : Nat) : I l g M_L_empty cvI 16 [] [.long s0, .int s1, .ref s2] (L_empty_b16 (gt0 g) (gmi g) s0 s1 s2) := by
  unfold L_empty_b16
  refine I_last 17 dL_empty_16 rfl ?_
  refine I_goto 24 dL_empty_17 rfl ?_
  refine I_iconst (0 : Int32) 25 dL_empty_24 rfl (by decide) ?_
  exact I_iret dL_empty_25 rfl
def f_L_empty (t0 mi : Nat) (x0 : Nat) (x1 : Int32) (x2 : Int32) (x3 : Nat) : Mo Int32 :=
    ctc (vc x0 6 (f_X5_empty t0 mi x0 x1 x2)) (fun v5 =>
    (if v5 = 0 then
    L_empty_b16 t0 mi (0 : Int64) (0 : Int32) x3
    else
    L_empty_b16 t0 mi (1 : Int64) (0 : Int32) x3)) (fun E =>
    (if E = "java/util/NoSuchElementException" then
    rt (1 : Int32)
    else
    flr))
set_option maxRecDepth 20000 in
theorem I_L_empty {l : Launch} {g : GX} (hst : l.stackTraces = false) (x0 : Nat) (x1 : Int32) (x2 : Int32) (x3 : Nat) : I l g M_L_empty cvI 0 [(0, .ref x0), (1, .int x1), (2, .int x2), (3, .ref x3)] [] (f_L_empty (gt0 g) (gmi g) x0 x1 x2 x3) := by
  unfold f_L_empty
  refine I_aload_n 3 1 dL_empty_0 rfl rfl rfl ?_
  refine I_iconst (0 : Int32) 2 dL_empty_1 rfl (by decide) ?_
  refine I_aload_n 0 3 dL_empty_2 rfl rfl rfl ?_
  refine I_iload_n 1 4 dL_empty_3 rfl rfl rfl ?_
  refine I_iload_n 2 5 dL_empty_4 rfl rfl rfl ?_
  refine I_callVc1 (As := [.int x1, .int x2]) (rest := [.int (0 : Int32), .ref x3]) 8 (C_X5_empty hst x0 x1 x2) dL_empty_5 rfl cl6 rfl (by decide) (Nat.le_of_ble_eq_true rfl) wcd_482 win_81 wml_483 wim_484 wse_485 ⟨by decide, by decide, pd_X5_empty⟩ rfl (by decide) (by decide) wcl_198 xc_N (fun v5 => ?_) (fun q20 => ?_)
  · refine I_if_eq 15 11 dL_empty_8 rfl rfl (fun _ => ?_) (fun _ => ?_)
    · refine I_lconst (0 : Int64) 16 dL_empty_15 rfl (by decide) ?_
      refine I_sub [] [] rfl ?_
      exact I_L_empty_b16 hst (0 : Int64) (0 : Int32) x3
    · refine I_lconst (1 : Int64) 12 dL_empty_11 rfl (by decide) ?_
      refine I_goto 16 dL_empty_12 rfl ?_
      refine I_sub [] [] rfl ?_
      exact I_L_empty_b16 hst (1 : Int64) (0 : Int32) x3
  · refine I_astore 22 [(4, .ref q20), (0, .ref x0), (1, .int x1), (2, .int x2), (3, .ref x3)] dL_empty_20 rfl (by decide) rfl ?_
    refine I_iconst (1 : Int32) 23 dL_empty_22 rfl (by decide) ?_
    exact I_iret dL_empty_23 rfl
theorem C_L_empty {l : Launch} {g : GX} (hst : l.stackTraces = false) (x0 : Nat) (x1 : Int32) (x2 : Int32) (x3 : Nat) : CsW l g M_L_empty [(0, 17, 20, 13)] cvI [.ref x0, .int x1, .int x2, .ref x3] (f_L_empty (gt0 g) (gmi g) x0 x1 x2 x3) :=
  CsW_of_I [(0, .ref x0), (1, .int x1), (2, .int x2), (3, .ref x3)] rfl (by decide) hst (Nat.le_of_ble_eq_true rfl) rfl (I_L_empty hst x0 x1 x2 x3)
/-! LunchMarksModel.isBox(I)Z -/
abbrev M_X6_isBox : MS := (yX6_isBox, cX6_isBox, 2, (some .boolean), [], 0, 0)
theorem pd_X6_isBox : (parseMethodDescriptor (mY M_X6_isBox).desc).map (fun d => d.parameters.length) = some 1 := by decide +kernel
def X6_isBox_b17 (t0 mi : Nat) (s0 : Int32) : Mo Int32 :=
    rtZ s0
set_option maxRecDepth 20000 in
theorem I_X6_isBox_b17 {l : Launch} {g : GX} (hst : l.stackTraces = false) (s0 : Int32) : I l g M_X6_isBox cvI 17 [] [.int s0] (X6_isBox_b17 (gt0 g) (gmi g) s0) := by
  unfold X6_isBox_b17
  exact I_zret dX6_isBox_17 rfl
def X6_isBox_b16 (t0 mi : Nat) : Mo Int32 :=
    X6_isBox_b17 t0 mi (0 : Int32)
set_option maxRecDepth 20000 in
theorem I_X6_isBox_b16 {l : Launch} {g : GX} (hst : l.stackTraces = false) : I l g M_X6_isBox cvI 16 [] [] (X6_isBox_b16 (gt0 g) (gmi g)) := by
  unfold X6_isBox_b16
  refine I_iconst (0 : Int32) 17 dX6_isBox_16 rfl (by decide) ?_
  refine I_sub [] [] rfl ?_
  exact I_X6_isBox_b17 hst (0 : Int32)
def f_X6_isBox (t0 mi : Nat) (x0 : Nat) (x1 : Int32) : Mo Int32 :=
    (if x1 < 0 then
    X6_isBox_b16 t0 mi
    else
    bnd (gI x0 7 4) fun v6 =>
    (if v6 ≤ x1 then
    X6_isBox_b16 t0 mi
    else
    X6_isBox_b17 t0 mi (1 : Int32)))
set_option maxRecDepth 20000 in
theorem I_X6_isBox {l : Launch} {g : GX} (hst : l.stackTraces = false) (x0 : Nat) (x1 : Int32) : I l g M_X6_isBox cvI 0 [(0, .ref x0), (1, .int x1)] [] (f_X6_isBox (gt0 g) (gmi g) x0 x1) := by
  unfold f_X6_isBox
  refine I_iload_n 1 1 dX6_isBox_0 rfl rfl rfl ?_
  refine I_if_lt 16 4 dX6_isBox_1 rfl rfl (fun _ => ?_) (fun _ => ?_)
  · refine I_sub [] [] rfl ?_
    exact I_X6_isBox_b16 hst
  · refine I_iload_n 1 5 dX6_isBox_4 rfl rfl rfl ?_
    refine I_aload_n 0 6 dX6_isBox_5 rfl rfl rfl ?_
    refine I_getI 9 dX6_isBox_6 rfl cl7 (by decide) wfl_241 sameF_rfl (fun v6 => ?_)
    refine I_icmp_ge 16 12 dX6_isBox_9 rfl rfl (fun _ => ?_) (fun _ => ?_)
    · refine I_sub [] [] rfl ?_
      exact I_X6_isBox_b16 hst
    · refine I_iconst (1 : Int32) 13 dX6_isBox_12 rfl (by decide) ?_
      refine I_goto 17 dX6_isBox_13 rfl ?_
      refine I_sub [] [] rfl ?_
      exact I_X6_isBox_b17 hst (1 : Int32)
theorem C_X6_isBox {l : Launch} {g : GX} (hst : l.stackTraces = false) (x0 : Nat) (x1 : Int32) : Cs l g M_X6_isBox cvI [.ref x0, .int x1] (f_X6_isBox (gt0 g) (gmi g) x0 x1) :=
  Cs_of_I [(0, .ref x0), (1, .int x1)] rfl (by decide) hst (Nat.le_of_ble_eq_true rfl) rfl (I_X6_isBox hst x0 x1)
/-! LunchMarksModel.arrives(I)I -/
abbrev M_X6_arrives : MS := (yX6_arrives, cX6_arrives, 3, (some .int), [], 3, 65)
theorem pd_X6_arrives : (parseMethodDescriptor (mY M_X6_arrives).desc).map (fun d => d.parameters.length) = some 1 := by decide +kernel
def X6_arrives_b50 (t0 mi : Nat) (s0 : Int32) : Mo Int32 :=
    rt s0
set_option maxRecDepth 20000 in
theorem I_X6_arrives_b50 {l : Launch} {g : GX} (hst : l.stackTraces = false) (s0 : Int32) : I l g M_X6_arrives cvI 50 [] [.int s0] (X6_arrives_b50 (gt0 g) (gmi g) s0) := by
  unfold X6_arrives_b50
  exact I_iret dX6_arrives_50 rfl
def X6_arrives_b45 (t0 mi : Nat) (s0 : Int32) (s1 : Int32) : Mo Int32 :=
    X6_arrives_b50 t0 mi (s1 + s0)
set_option maxRecDepth 20000 in
theorem I_X6_arrives_b45 {l : Launch} {g : GX} (hst : l.stackTraces = false) (s0 : Int32) (s1 : Int32) : I l g M_X6_arrives cvI 45 [] [.int s0, .int s1] (X6_arrives_b45 (gt0 g) (gmi g) s0 s1) := by
  unfold X6_arrives_b45
  refine I_iadd 46 dX6_arrives_45 rfl ?_
  refine I_goto 50 dX6_arrives_46 rfl ?_
  refine I_sub [] [] rfl ?_
  exact I_X6_arrives_b50 hst (s1 + s0)
def f_X6_arrives (t0 mi : Nat) (x0 : Nat) (x1 : Int32) : Mo Int32 :=
    bnd (vc x0 7 (f_X6_wayOf t0 mi x0 x1)) fun v2 =>
    bnd (gA' x0 7 23) fun v7 =>
    bnd (ldK 2 v7 v2) fun v11 =>
    (if v11 = 0 then
    X6_arrives_b50 t0 mi (-1 : Int32)
    else
    bnd (vc x0 7 (f_X6_there t0 mi x0 v2 x1)) fun v18 =>
    bnd (gA' x0 7 21) fun v22 =>
    bnd (ldK 2 v22 x1) fun v26 =>
    (if v26 = 0 then
    bnd (gA' x0 7 18) fun v40 =>
    bnd (ldK 0 v40 x1) fun v44 =>
    X6_arrives_b45 t0 mi v44 v18
    else
    bnd (gA' x0 7 15) fun v31 =>
    bnd (ldK 0 v31 x1) fun v35 =>
    X6_arrives_b45 t0 mi v35 v18))
set_option maxRecDepth 20000 in
theorem I_X6_arrives {l : Launch} {g : GX} (hst : l.stackTraces = false) (x0 : Nat) (x1 : Int32) : I l g M_X6_arrives cvI 0 [(0, .ref x0), (1, .int x1)] [] (f_X6_arrives (gt0 g) (gmi g) x0 x1) := by
  unfold f_X6_arrives
  refine I_aload_n 0 1 dX6_arrives_0 rfl rfl rfl ?_
  refine I_iload_n 1 2 dX6_arrives_1 rfl rfl rfl ?_
  refine I_callVi (As := [.int x1]) (rest := []) 5 (C_X6_wayOf hst x0 x1) dX6_arrives_2 rfl cl7 rfl (by decide) (Nat.le_of_ble_eq_true rfl) wcd_362 win_200 wml_363 wim_364 wse_365 ⟨by decide, by decide, pd_X6_wayOf⟩ (fun x hx => by cases hx) (fun v2 => ?_)
  refine I_istore_n 6 [(2, .int v2), (0, .ref x0), (1, .int x1)] dX6_arrives_5 rfl rfl (by decide) rfl ?_
  refine I_aload_n 1 7 dX6_arrives_6 rfl rfl rfl ?_
  refine I_getA 10 dX6_arrives_7 rfl cl7 (by decide) wfl_70 sameF_rfl (fun v7 => ?_)
  refine I_iload_n 0 11 dX6_arrives_10 rfl rfl rfl ?_
  refine I_zald 12 dX6_arrives_11 rfl (fun v11 => ?_)
  refine I_if_eq 49 15 dX6_arrives_12 rfl rfl (fun _ => ?_) (fun _ => ?_)
  · refine I_iconst (-1 : Int32) 50 dX6_arrives_49 rfl (by decide) ?_
    refine I_sub [] [] rfl ?_
    exact I_X6_arrives_b50 hst (-1 : Int32)
  · refine I_aload_n 1 16 dX6_arrives_15 rfl rfl rfl ?_
    refine I_iload_n 0 17 dX6_arrives_16 rfl rfl rfl ?_
    refine I_iload_n 2 18 dX6_arrives_17 rfl rfl rfl ?_
    refine I_callVi (As := [.int v2, .int x1]) (rest := []) 21 (C_X6_there hst x0 v2 x1) dX6_arrives_18 rfl cl7 rfl (by decide) (Nat.le_of_ble_eq_true rfl) wcd_450 win_200 wml_451 wim_452 wse_453 ⟨by decide, by decide, pd_X6_there⟩ (fun x hx => by cases hx) (fun v18 => ?_)
    refine I_aload_n 1 22 dX6_arrives_21 rfl rfl rfl ?_
    refine I_getA 25 dX6_arrives_22 rfl cl7 (by decide) wfl_68 sameF_rfl (fun v22 => ?_)
    refine I_iload_n 2 26 dX6_arrives_25 rfl rfl rfl ?_
    refine I_zald 27 dX6_arrives_26 rfl (fun v26 => ?_)
    refine I_if_eq 39 30 dX6_arrives_27 rfl rfl (fun _ => ?_) (fun _ => ?_)
    · refine I_aload_n 1 40 dX6_arrives_39 rfl rfl rfl ?_
      refine I_getA 43 dX6_arrives_40 rfl cl7 (by decide) wfl_65 sameF_rfl (fun v40 => ?_)
      refine I_iload_n 2 44 dX6_arrives_43 rfl rfl rfl ?_
      refine I_iald 45 dX6_arrives_44 rfl (fun v44 => ?_)
      refine I_sub [] [] rfl ?_
      exact I_X6_arrives_b45 hst v44 v18
    · refine I_aload_n 1 31 dX6_arrives_30 rfl rfl rfl ?_
      refine I_getA 34 dX6_arrives_31 rfl cl7 (by decide) wfl_62 sameF_rfl (fun v31 => ?_)
      refine I_iload_n 2 35 dX6_arrives_34 rfl rfl rfl ?_
      refine I_iald 36 dX6_arrives_35 rfl (fun v35 => ?_)
      refine I_goto 45 dX6_arrives_36 rfl ?_
      refine I_sub [] [] rfl ?_
      exact I_X6_arrives_b45 hst v35 v18
theorem C_X6_arrives {l : Launch} {g : GX} (hst : l.stackTraces = false) (x0 : Nat) (x1 : Int32) : Cs l g M_X6_arrives cvI [.ref x0, .int x1] (f_X6_arrives (gt0 g) (gmi g) x0 x1) :=
  Cs_of_I [(0, .ref x0), (1, .int x1)] rfl (by decide) hst (Nat.le_of_ble_eq_true rfl) rfl (I_X6_arrives hst x0 x1)
/-! LunchMarksModel.empty(II)Z -/
abbrev M_X6_empty : MS := (yX6_empty, cX6_empty, 3, (some .boolean), [], 4, 87)
theorem pd_X6_empty : (parseMethodDescriptor (mY M_X6_empty).desc).map (fun d => d.parameters.length) = some 2 := by decide +kernel
def X6_empty_b65 (t0 mi : Nat) : Mo Int32 :=
    rtZ (0 : Int32)
set_option maxRecDepth 20000 in
theorem I_X6_empty_b65 {l : Launch} {g : GX} (hst : l.stackTraces = false) : I l g M_X6_empty cvI 65 [] [] (X6_empty_b65 (gt0 g) (gmi g)) := by
  unfold X6_empty_b65
  refine I_iconst (0 : Int32) 66 dX6_empty_65 rfl (by decide) ?_
  exact I_zret dX6_empty_66 rfl
def f_X6_empty (t0 mi : Nat) (x0 : Nat) (x1 : Int32) (x2 : Int32) : Mo Int32 :=
    bnd (pV x0 7 0 (.int (0 : Int32))) fun _ =>
    bnd (vc x0 7 (f_X6_isBox t0 mi x0 x1)) fun v7 =>
    (if v7 = 0 then
    bnd (vc x0 7 (f_X6_fail t0 mi x0)) fun v14 =>
    rtZ (0 : Int32)
    else
    bnd (gA' x0 7 21) fun v21 =>
    bnd (ldK 2 v21 x1) fun v25 =>
    (if v25 = 0 then
    bnd (vc x0 7 (f_X6_arrives t0 mi x0 x1)) fun v31 =>
    (if v31 = (-1 : Int32) then
    X6_empty_b65 t0 mi
    else
    bnd (vc x0 7 (f_X6_arrives t0 mi x0 x1)) fun v40 =>
    bnd (gI x0 7 1) fun v44 =>
    (if v44 < v40 then
    X6_empty_b65 t0 mi
    else
    bnd (gI x0 7 1) fun v52 =>
    (if x2 < v52 then
    X6_empty_b65 t0 mi
    else
    (if x2 ≤ (1439 : Int32) then
    bnd (gA' x0 7 21) fun v68 =>
    bnd (stZ v68 x1 (1 : Int32)) fun _ =>
    bnd (gA' x0 7 20) fun v75 =>
    bnd (stK 0 v75 x1 x2) fun _ =>
    rtZ (1 : Int32)
    else
    X6_empty_b65 t0 mi))))
    else
    X6_empty_b65 t0 mi))
set_option maxRecDepth 20000 in
theorem I_X6_empty {l : Launch} {g : GX} (hst : l.stackTraces = false) (x0 : Nat) (x1 : Int32) (x2 : Int32) : I l g M_X6_empty cvI 0 [(0, .ref x0), (1, .int x1), (2, .int x2)] [] (f_X6_empty (gt0 g) (gmi g) x0 x1 x2) := by
  unfold f_X6_empty
  refine I_aload_n 0 1 dX6_empty_0 rfl rfl rfl ?_
  refine I_iconst (0 : Int32) 2 dX6_empty_1 rfl (by decide) ?_
  refine I_put 5 dX6_empty_2 rfl cl7 (by decide) wfl_88 sameF_rfl rfl rfl rfl ?_
  refine I_aload_n 0 6 dX6_empty_5 rfl rfl rfl ?_
  refine I_iload_n 1 7 dX6_empty_6 rfl rfl rfl ?_
  refine I_callVi (As := [.int x1]) (rest := []) 10 (C_X6_isBox hst x0 x1) dX6_empty_7 rfl cl7 rfl (by decide) (Nat.le_of_ble_eq_true rfl) wcd_486 win_200 wml_487 wim_488 wse_489 ⟨by decide, by decide, pd_X6_isBox⟩ (fun x hx => by cases hx) (fun v7 => ?_)
  refine I_if_ne 20 13 dX6_empty_10 rfl rfl (fun _ => ?_) (fun _ => ?_)
  · refine I_aload_n 0 14 dX6_empty_13 rfl rfl rfl ?_
    refine I_callVi (As := []) (rest := []) 17 (C_X6_fail hst x0) dX6_empty_14 rfl cl7 rfl (by decide) (Nat.le_of_ble_eq_true rfl) wcd_204 win_200 wml_205 wim_206 wse_207 ⟨by decide, by decide, pd_X6_fail⟩ (fun x hx => by cases hx) (fun v14 => ?_)
    refine I_pop 18 dX6_empty_17 rfl rfl ?_
    refine I_iconst (0 : Int32) 19 dX6_empty_18 rfl (by decide) ?_
    exact I_zret dX6_empty_19 rfl
  · refine I_aload_n 0 21 dX6_empty_20 rfl rfl rfl ?_
    refine I_getA 24 dX6_empty_21 rfl cl7 (by decide) wfl_68 sameF_rfl (fun v21 => ?_)
    refine I_iload_n 1 25 dX6_empty_24 rfl rfl rfl ?_
    refine I_zald 26 dX6_empty_25 rfl (fun v25 => ?_)
    refine I_if_ne 65 29 dX6_empty_26 rfl rfl (fun _ => ?_) (fun _ => ?_)
    · refine I_aload_n 0 30 dX6_empty_29 rfl rfl rfl ?_
      refine I_iload_n 1 31 dX6_empty_30 rfl rfl rfl ?_
      refine I_callVi (As := [.int x1]) (rest := []) 34 (C_X6_arrives hst x0 x1) dX6_empty_31 rfl cl7 rfl (by decide) (Nat.le_of_ble_eq_true rfl) wcd_490 win_200 wml_491 wim_492 wse_493 ⟨by decide, by decide, pd_X6_arrives⟩ (fun x hx => by cases hx) (fun v31 => ?_)
      refine I_iconst (-1 : Int32) 35 dX6_empty_34 rfl (by decide) ?_
      refine I_icmp_eq 65 38 dX6_empty_35 rfl rfl (fun _ => ?_) (fun _ => ?_)
      · refine I_sub [] [] rfl ?_
        exact I_X6_empty_b65 hst
      · refine I_aload_n 0 39 dX6_empty_38 rfl rfl rfl ?_
        refine I_iload_n 1 40 dX6_empty_39 rfl rfl rfl ?_
        refine I_callVi (As := [.int x1]) (rest := []) 43 (C_X6_arrives hst x0 x1) dX6_empty_40 rfl cl7 rfl (by decide) (Nat.le_of_ble_eq_true rfl) wcd_490 win_200 wml_491 wim_492 wse_493 ⟨by decide, by decide, pd_X6_arrives⟩ (fun x hx => by cases hx) (fun v40 => ?_)
        refine I_aload_n 0 44 dX6_empty_43 rfl rfl rfl ?_
        refine I_getI 47 dX6_empty_44 rfl cl7 (by decide) wfl_393 sameF_rfl (fun v44 => ?_)
        refine I_icmp_gt 65 50 dX6_empty_47 rfl rfl (fun _ => ?_) (fun _ => ?_)
        · refine I_sub [] [] rfl ?_
          exact I_X6_empty_b65 hst
        · refine I_iload_n 2 51 dX6_empty_50 rfl rfl rfl ?_
          refine I_aload_n 0 52 dX6_empty_51 rfl rfl rfl ?_
          refine I_getI 55 dX6_empty_52 rfl cl7 (by decide) wfl_393 sameF_rfl (fun v52 => ?_)
          refine I_icmp_lt 65 58 dX6_empty_55 rfl rfl (fun _ => ?_) (fun _ => ?_)
          · refine I_sub [] [] rfl ?_
            exact I_X6_empty_b65 hst
          · refine I_iload_n 2 59 dX6_empty_58 rfl rfl rfl ?_
            refine I_sipush (1439 : Int32) 62 dX6_empty_59 rfl (by decide) ?_
            refine I_icmp_le 67 65 dX6_empty_62 rfl rfl (fun _ => ?_) (fun _ => ?_)
            · refine I_aload_n 0 68 dX6_empty_67 rfl rfl rfl ?_
              refine I_getA 71 dX6_empty_68 rfl cl7 (by decide) wfl_68 sameF_rfl (fun v68 => ?_)
              refine I_iload_n 1 72 dX6_empty_71 rfl rfl rfl ?_
              refine I_iconst (1 : Int32) 73 dX6_empty_72 rfl (by decide) ?_
              refine I_zast 74 dX6_empty_73 rfl ?_
              refine I_aload_n 0 75 dX6_empty_74 rfl rfl rfl ?_
              refine I_getA 78 dX6_empty_75 rfl cl7 (by decide) wfl_67 sameF_rfl (fun v75 => ?_)
              refine I_iload_n 1 79 dX6_empty_78 rfl rfl rfl ?_
              refine I_iload_n 2 80 dX6_empty_79 rfl rfl rfl ?_
              refine I_iast 81 dX6_empty_80 rfl ?_
              refine I_iconst (1 : Int32) 82 dX6_empty_81 rfl (by decide) ?_
              exact I_zret dX6_empty_82 rfl
            · refine I_sub [] [] rfl ?_
              exact I_X6_empty_b65 hst
    · refine I_sub [] [] rfl ?_
      exact I_X6_empty_b65 hst
theorem C_X6_empty {l : Launch} {g : GX} (hst : l.stackTraces = false) (x0 : Nat) (x1 : Int32) (x2 : Int32) : Cs l g M_X6_empty cvI [.ref x0, .int x1, .int x2] (f_X6_empty (gt0 g) (gmi g) x0 x1 x2) :=
  Cs_of_I [(0, .ref x0), (1, .int x1), (2, .int x2)] rfl (by decide) hst (Nat.le_of_ble_eq_true rfl) rfl (I_X6_empty hst x0 x1 x2)
/-! LunchMarks$Trip.isGoneBy(I)Z -/
abbrev M_X4_isGoneBy : MS := (yX4_isGoneBy, cX4_isGoneBy, 2, (some .boolean), [], 0, 0)
theorem pd_X4_isGoneBy : (parseMethodDescriptor (mY M_X4_isGoneBy).desc).map (fun d => d.parameters.length) = some 1 := by decide +kernel
def X4_isGoneBy_b20 (t0 mi : Nat) (s0 : Int32) : Mo Int32 :=
    rtZ s0
set_option maxRecDepth 20000 in
theorem I_X4_isGoneBy_b20 {l : Launch} {g : GX} (hst : l.stackTraces = false) (s0 : Int32) : I l g M_X4_isGoneBy cvI 20 [] [.int s0] (X4_isGoneBy_b20 (gt0 g) (gmi g) s0) := by
  unfold X4_isGoneBy_b20
  exact I_zret dX4_isGoneBy_20 rfl
def X4_isGoneBy_b19 (t0 mi : Nat) : Mo Int32 :=
    X4_isGoneBy_b20 t0 mi (0 : Int32)
set_option maxRecDepth 20000 in
theorem I_X4_isGoneBy_b19 {l : Launch} {g : GX} (hst : l.stackTraces = false) : I l g M_X4_isGoneBy cvI 19 [] [] (X4_isGoneBy_b19 (gt0 g) (gmi g)) := by
  unfold X4_isGoneBy_b19
  refine I_iconst (0 : Int32) 20 dX4_isGoneBy_19 rfl (by decide) ?_
  refine I_sub [] [] rfl ?_
  exact I_X4_isGoneBy_b20 hst (0 : Int32)
def f_X4_isGoneBy (t0 mi : Nat) (x0 : Nat) (x1 : Int32) : Mo Int32 :=
    bnd (gI x0 5 8) fun v1 =>
    (if v1 = 0 then
    X4_isGoneBy_b19 t0 mi
    else
    bnd (gI x0 5 2) fun v8 =>
    (if x1 < v8 then
    X4_isGoneBy_b19 t0 mi
    else
    X4_isGoneBy_b20 t0 mi (1 : Int32)))
set_option maxRecDepth 20000 in
theorem I_X4_isGoneBy {l : Launch} {g : GX} (hst : l.stackTraces = false) (x0 : Nat) (x1 : Int32) : I l g M_X4_isGoneBy cvI 0 [(0, .ref x0), (1, .int x1)] [] (f_X4_isGoneBy (gt0 g) (gmi g) x0 x1) := by
  unfold f_X4_isGoneBy
  refine I_aload_n 0 1 dX4_isGoneBy_0 rfl rfl rfl ?_
  refine I_getI 4 dX4_isGoneBy_1 rfl cl5 (by decide) wfl_220 sameF_rfl (fun v1 => ?_)
  refine I_if_eq 19 7 dX4_isGoneBy_4 rfl rfl (fun _ => ?_) (fun _ => ?_)
  · refine I_sub [] [] rfl ?_
    exact I_X4_isGoneBy_b19 hst
  · refine I_aload_n 0 8 dX4_isGoneBy_7 rfl rfl rfl ?_
    refine I_getI 11 dX4_isGoneBy_8 rfl cl5 (by decide) wfl_214 sameF_rfl (fun v8 => ?_)
    refine I_iload_n 1 12 dX4_isGoneBy_11 rfl rfl rfl ?_
    refine I_icmp_gt 19 15 dX4_isGoneBy_12 rfl rfl (fun _ => ?_) (fun _ => ?_)
    · refine I_sub [] [] rfl ?_
      exact I_X4_isGoneBy_b19 hst
    · refine I_iconst (1 : Int32) 16 dX4_isGoneBy_15 rfl (by decide) ?_
      refine I_goto 20 dX4_isGoneBy_16 rfl ?_
      refine I_sub [] [] rfl ?_
      exact I_X4_isGoneBy_b20 hst (1 : Int32)
theorem C_X4_isGoneBy {l : Launch} {g : GX} (hst : l.stackTraces = false) (x0 : Nat) (x1 : Int32) : Cs l g M_X4_isGoneBy cvI [.ref x0, .int x1] (f_X4_isGoneBy (gt0 g) (gmi g) x0 x1) :=
  Cs_of_I [(0, .ref x0), (1, .int x1)] rfl (by decide) hst (Nat.le_of_ble_eq_true rfl) rfl (I_X4_isGoneBy hst x0 x1)
/-! LunchMarks.asNumber(Z)I -/
abbrev M_X5_asNumber : MS := (yX5_asNumber, cX5_asNumber, 1, (some .int), [], 0, 0)
theorem pd_X5_asNumber : (parseMethodDescriptor (mY M_X5_asNumber).desc).map (fun d => d.parameters.length) = some 1 := by decide +kernel
def X5_asNumber_b9 (t0 mi : Nat) (s0 : Int32) : Mo Int32 :=
    rt s0
set_option maxRecDepth 20000 in
theorem I_X5_asNumber_b9 {l : Launch} {g : GX} (hst : l.stackTraces = false) (s0 : Int32) : I l g M_X5_asNumber cvI 9 [] [.int s0] (X5_asNumber_b9 (gt0 g) (gmi g) s0) := by
  unfold X5_asNumber_b9
  exact I_iret dX5_asNumber_9 rfl
def f_X5_asNumber (t0 mi : Nat) (x0 : Int32) : Mo Int32 :=
    (if x0 = 0 then
    X5_asNumber_b9 t0 mi (0 : Int32)
    else
    X5_asNumber_b9 t0 mi (1 : Int32))
set_option maxRecDepth 20000 in
theorem I_X5_asNumber {l : Launch} {g : GX} (hst : l.stackTraces = false) (x0 : Int32) : I l g M_X5_asNumber cvI 0 [(0, .int x0)] [] (f_X5_asNumber (gt0 g) (gmi g) x0) := by
  unfold f_X5_asNumber
  refine I_iload_n 0 1 dX5_asNumber_0 rfl rfl rfl ?_
  refine I_if_eq 8 4 dX5_asNumber_1 rfl rfl (fun _ => ?_) (fun _ => ?_)
  · refine I_iconst (0 : Int32) 9 dX5_asNumber_8 rfl (by decide) ?_
    refine I_sub [] [] rfl ?_
    exact I_X5_asNumber_b9 hst (0 : Int32)
  · refine I_iconst (1 : Int32) 5 dX5_asNumber_4 rfl (by decide) ?_
    refine I_goto 9 dX5_asNumber_5 rfl ?_
    refine I_sub [] [] rfl ?_
    exact I_X5_asNumber_b9 hst (1 : Int32)
theorem C_X5_asNumber {l : Launch} {g : GX} (hst : l.stackTraces = false) (x0 : Int32) : Cs l g M_X5_asNumber cvI [.int x0] (f_X5_asNumber (gt0 g) (gmi g) x0) :=
  Cs_of_I [(0, .int x0)] rfl (by decide) hst (Nat.le_of_ble_eq_true rfl) rfl (I_X5_asNumber hst x0)
/-! LunchMarks$Trip.isLate()Z -/
abbrev M_X4_isLate : MS := (yX4_isLate, cX4_isLate, 1, (some .boolean), [], 2, 40)
theorem pd_X4_isLate : (parseMethodDescriptor (mY M_X4_isLate).desc).map (fun d => d.parameters.length) = some 0 := by decide +kernel
def X4_isLate_b23 (t0 mi : Nat) (s0 : Int32) : Mo Int32 :=
    rtZ s0
set_option maxRecDepth 20000 in
theorem I_X4_isLate_b23 {l : Launch} {g : GX} (hst : l.stackTraces = false) (s0 : Int32) : I l g M_X4_isLate cvI 23 [] [.int s0] (X4_isLate_b23 (gt0 g) (gmi g) s0) := by
  unfold X4_isLate_b23
  exact I_zret dX4_isLate_23 rfl
def X4_isLate_b22 (t0 mi : Nat) : Mo Int32 :=
    X4_isLate_b23 t0 mi (0 : Int32)
set_option maxRecDepth 20000 in
theorem I_X4_isLate_b22 {l : Launch} {g : GX} (hst : l.stackTraces = false) : I l g M_X4_isLate cvI 22 [] [] (X4_isLate_b22 (gt0 g) (gmi g)) := by
  unfold X4_isLate_b22
  refine I_iconst (0 : Int32) 23 dX4_isLate_22 rfl (by decide) ?_
  refine I_sub [] [] rfl ?_
  exact I_X4_isLate_b23 hst (0 : Int32)
def f_X4_isLate (t0 mi : Nat) (x0 : Nat) : Mo Int32 :=
    bnd (vc x0 5 (f_X4_hasWay t0 mi x0)) fun v1 =>
    (if v1 = 0 then
    X4_isLate_b22 t0 mi
    else
    bnd (vc x0 5 (f_X4_arrival t0 mi x0)) fun v8 =>
    bnd (gI x0 5 5) fun v12 =>
    (if v8 ≤ v12 then
    X4_isLate_b22 t0 mi
    else
    X4_isLate_b23 t0 mi (1 : Int32)))
set_option maxRecDepth 20000 in
theorem I_X4_isLate {l : Launch} {g : GX} (hst : l.stackTraces = false) (x0 : Nat) : I l g M_X4_isLate cvI 0 [(0, .ref x0)] [] (f_X4_isLate (gt0 g) (gmi g) x0) := by
  unfold f_X4_isLate
  refine I_aload_n 0 1 dX4_isLate_0 rfl rfl rfl ?_
  refine I_callVi (As := []) (rest := []) 4 (C_X4_hasWay hst x0) dX4_isLate_1 rfl cl5 rfl (by decide) (Nat.le_of_ble_eq_true rfl) wcd_454 win_233 wml_455 wim_456 wse_457 ⟨by decide, by decide, pd_X4_hasWay⟩ (fun x hx => by cases hx) (fun v1 => ?_)
  refine I_if_eq 22 7 dX4_isLate_4 rfl rfl (fun _ => ?_) (fun _ => ?_)
  · refine I_sub [] [] rfl ?_
    exact I_X4_isLate_b22 hst
  · refine I_aload_n 0 8 dX4_isLate_7 rfl rfl rfl ?_
    refine I_callVi (As := []) (rest := []) 11 (C_X4_arrival hst x0) dX4_isLate_8 rfl cl5 rfl (by decide) (Nat.le_of_ble_eq_true rfl) wcd_458 win_233 wml_459 wim_460 wse_461 ⟨by decide, by decide, pd_X4_arrival⟩ (fun x hx => by cases hx) (fun v8 => ?_)
    refine I_aload_n 0 12 dX4_isLate_11 rfl rfl rfl ?_
    refine I_getI 15 dX4_isLate_12 rfl cl5 (by decide) wfl_217 sameF_rfl (fun v12 => ?_)
    refine I_icmp_le 22 18 dX4_isLate_15 rfl rfl (fun _ => ?_) (fun _ => ?_)
    · refine I_sub [] [] rfl ?_
      exact I_X4_isLate_b22 hst
    · refine I_iconst (1 : Int32) 19 dX4_isLate_18 rfl (by decide) ?_
      refine I_goto 23 dX4_isLate_19 rfl ?_
      refine I_sub [] [] rfl ?_
      exact I_X4_isLate_b23 hst (1 : Int32)
theorem C_X4_isLate {l : Launch} {g : GX} (hst : l.stackTraces = false) (x0 : Nat) : Cs l g M_X4_isLate cvI [.ref x0] (f_X4_isLate (gt0 g) (gmi g) x0) :=
  Cs_of_I [(0, .ref x0)] rfl (by decide) hst (Nat.le_of_ble_eq_true rfl) rfl (I_X4_isLate hst x0)
/-! LunchMarks.of(II)I -/
abbrev M_X5_of : MS := (yX5_of, cX5_of, 5, (some .int), [], 7, 103)
theorem pd_X5_of : (parseMethodDescriptor (mY M_X5_of).desc).map (fun d => d.parameters.length) = some 2 := by decide +kernel
def f_X5_of (t0 mi : Nat) (x0 : Nat) (x1 : Int32) (x2 : Int32) : Mo Int32 :=
    bnd (vc x0 6 (f_X5_boxOf t0 mi x0 x1)) fun v2 =>
    bnd (vc v2 1 (f_X0_current t0 mi v2)) fun v7 =>
    (if x2 = 0 then
    bnd (gI v7 5 7) fun v58 =>
    rt v58
    else
    (if x2 = 1 then
    bnd (vc v7 5 (f_X4_arrival t0 mi v7)) fun v64 =>
    rt v64
    else
    (if x2 = 2 then
    bnd (gI x0 6 4) fun v71 =>
    bnd (vc v7 5 (f_X4_isGoneBy t0 mi v7 v71)) fun v74 =>
    bnd (f_X5_asNumber t0 mi v74) fun v77 =>
    rt v77
    else
    (if x2 = 3 then
    bnd (vc v7 5 (f_X4_isLate t0 mi v7)) fun v83 =>
    bnd (f_X5_asNumber t0 mi v83) fun v86 =>
    rt v86
    else
    (if x2 = 4 then
    bnd (gI v7 5 10) fun v92 =>
    rt v92
    else
    (if x2 = 5 then
    bnd (gI v7 5 11) fun v98 =>
    rt v98
    else
    (if x2 = 6 then
    bnd (vc v2 1 (f_X0_isEmpty t0 mi v2)) fun v103 =>
    bnd (f_X5_asNumber t0 mi v103) fun v106 =>
    rt v106
    else
    thr "java/util/NoSuchElementException")))))))
set_option maxRecDepth 20000 in
theorem I_X5_of {l : Launch} {g : GX} (hst : l.stackTraces = false) (x0 : Nat) (x1 : Int32) (x2 : Int32) : I l g M_X5_of cvI 0 [(0, .ref x0), (1, .int x1), (2, .int x2)] [] (f_X5_of (gt0 g) (gmi g) x0 x1 x2) := by
  unfold f_X5_of
  refine I_aload_n 0 1 dX5_of_0 rfl rfl rfl ?_
  refine I_iload_n 1 2 dX5_of_1 rfl rfl rfl ?_
  refine I_callVa (As := [.int x1]) (rest := []) 5 (C_X5_boxOf hst x0 x1) dX5_of_2 rfl cl6 rfl (by decide) (Nat.le_of_ble_eq_true rfl) wcd_464 win_81 wml_465 wim_466 wse_467 ⟨by decide, by decide, pd_X5_boxOf⟩ (fun x hx => by cases hx) (fun v2 => ?_)
  refine I_astore_n 6 [(3, .ref v2), (0, .ref x0), (1, .int x1), (2, .int x2)] dX5_of_5 rfl rfl (by decide) rfl ?_
  refine I_aload_n 0 7 dX5_of_6 rfl rfl rfl ?_
  refine I_callVa (As := []) (rest := []) 10 (C_X0_current hst v2) dX5_of_7 rfl cl1 rfl (by decide) (Nat.le_of_ble_eq_true rfl) wcd_332 win_230 wml_333 wim_334 wse_335 ⟨by decide, by decide, pd_X0_current⟩ (fun x hx => by cases hx) (fun v7 => ?_)
  refine I_astore 12 [(4, .ref v7), (3, .ref v2), (0, .ref x0), (1, .int x1), (2, .int x2)] dX5_of_10 rfl (by decide) rfl ?_
  refine I_iload_n 4 13 dX5_of_12 rfl rfl rfl ?_
  refine I_case (fun e0 => ?_) (fun e0 => ?_)
  · refine I_tableIn 56 dX5_of_13 (by rw [e0]; decide) (by rw [e0]; decide) (by rw [e0]; rfl) rfl ?_
    refine I_aload 0 58 dX5_of_56 rfl rfl ?_
    refine I_getI 61 dX5_of_58 rfl cl5 (by decide) wfl_494 sameF_rfl (fun v58 => ?_)
    exact I_iret dX5_of_61 rfl
  refine I_case (fun e1 => ?_) (fun e1 => ?_)
  · refine I_tableIn 62 dX5_of_13 (by rw [e1]; decide) (by rw [e1]; decide) (by rw [e1]; rfl) rfl ?_
    refine I_aload 0 64 dX5_of_62 rfl rfl ?_
    refine I_callVi (As := []) (rest := []) 67 (C_X4_arrival hst v7) dX5_of_64 rfl cl5 rfl (by decide) (Nat.le_of_ble_eq_true rfl) wcd_458 win_233 wml_495 wim_460 wse_461 ⟨by decide, by decide, pd_X4_arrival⟩ (fun x hx => by cases hx) (fun v64 => ?_)
    exact I_iret dX5_of_67 rfl
  refine I_case (fun e2 => ?_) (fun e2 => ?_)
  · refine I_tableIn 68 dX5_of_13 (by rw [e2]; decide) (by rw [e2]; decide) (by rw [e2]; rfl) rfl ?_
    refine I_aload 0 70 dX5_of_68 rfl rfl ?_
    refine I_aload_n 2 71 dX5_of_70 rfl rfl rfl ?_
    refine I_getI 74 dX5_of_71 rfl cl6 (by decide) wfl_50 sameF_rfl (fun v71 => ?_)
    refine I_callVi (As := [.int v71]) (rest := []) 77 (C_X4_isGoneBy hst v7 v71) dX5_of_74 rfl cl5 rfl (by decide) (Nat.le_of_ble_eq_true rfl) wcd_496 win_233 wml_497 wim_498 wse_499 ⟨by decide, by decide, pd_X4_isGoneBy⟩ (fun x hx => by cases hx) (fun v74 => ?_)
    refine I_callSi (As := [.int v74]) (rest := []) 80 (C_X5_asNumber hst v74) dX5_of_77 rfl rfl (by decide) (Nat.le_of_ble_eq_true rfl) wcd_500 win_81 wml_501 wst_502 ⟨by decide, by decide, pd_X5_asNumber⟩ (fun x hx => by cases hx) (fun v77 => ?_)
    exact I_iret dX5_of_80 rfl
  refine I_case (fun e3 => ?_) (fun e3 => ?_)
  · refine I_tableIn 81 dX5_of_13 (by rw [e3]; decide) (by rw [e3]; decide) (by rw [e3]; rfl) rfl ?_
    refine I_aload 0 83 dX5_of_81 rfl rfl ?_
    refine I_callVi (As := []) (rest := []) 86 (C_X4_isLate hst v7) dX5_of_83 rfl cl5 rfl (by decide) (Nat.le_of_ble_eq_true rfl) wcd_503 win_233 wml_504 wim_505 wse_506 ⟨by decide, by decide, pd_X4_isLate⟩ (fun x hx => by cases hx) (fun v83 => ?_)
    refine I_callSi (As := [.int v83]) (rest := []) 89 (C_X5_asNumber hst v83) dX5_of_86 rfl rfl (by decide) (Nat.le_of_ble_eq_true rfl) wcd_500 win_81 wml_501 wst_502 ⟨by decide, by decide, pd_X5_asNumber⟩ (fun x hx => by cases hx) (fun v86 => ?_)
    exact I_iret dX5_of_89 rfl
  refine I_case (fun e4 => ?_) (fun e4 => ?_)
  · refine I_tableIn 90 dX5_of_13 (by rw [e4]; decide) (by rw [e4]; decide) (by rw [e4]; rfl) rfl ?_
    refine I_aload 0 92 dX5_of_90 rfl rfl ?_
    refine I_getI 95 dX5_of_92 rfl cl5 (by decide) wfl_329 sameF_rfl (fun v92 => ?_)
    exact I_iret dX5_of_95 rfl
  refine I_case (fun e5 => ?_) (fun e5 => ?_)
  · refine I_tableIn 96 dX5_of_13 (by rw [e5]; decide) (by rw [e5]; decide) (by rw [e5]; rfl) rfl ?_
    refine I_aload 0 98 dX5_of_96 rfl rfl ?_
    refine I_getI 101 dX5_of_98 rfl cl5 (by decide) wfl_330 sameF_rfl (fun v98 => ?_)
    exact I_iret dX5_of_101 rfl
  refine I_case (fun e6 => ?_) (fun e6 => ?_)
  · refine I_tableIn 102 dX5_of_13 (by rw [e6]; decide) (by rw [e6]; decide) (by rw [e6]; rfl) rfl ?_
    refine I_aload_n 1 103 dX5_of_102 rfl rfl rfl ?_
    refine I_callVi (As := []) (rest := []) 106 (C_X0_isEmpty hst v2) dX5_of_103 rfl cl1 rfl (by decide) (Nat.le_of_ble_eq_true rfl) wcd_468 win_230 wml_469 wim_470 wse_471 ⟨by decide, by decide, pd_X0_isEmpty⟩ (fun x hx => by cases hx) (fun v103 => ?_)
    refine I_callSi (As := [.int v103]) (rest := []) 109 (C_X5_asNumber hst v103) dX5_of_106 rfl rfl (by decide) (Nat.le_of_ble_eq_true rfl) wcd_500 win_81 wml_501 wst_502 ⟨by decide, by decide, pd_X5_asNumber⟩ (fun x hx => by cases hx) (fun v106 => ?_)
    exact I_iret dX5_of_109 rfl
  refine I_tableOut 110 dX5_of_13 (tsw_6 e0 e1 e2 e3 e4 e5 e6) rfl ?_
  exact I_throwX (rx := nseC) (by decide +kernel) (by decide +kernel) (by decide +kernel) (by decide +kernel) (k := 1) (names := thn) dX5_of_110 dX5_of_113 dX5_of_114 dX5_of_116 dX5_of_119 rfl rfl (by decide) (by decide) wcl_162 win_163 thN_167 tgN_167 rfl (by decide) (Nat.le_of_ble_eq_true rfl)
theorem C_X5_of {l : Launch} {g : GX} (hst : l.stackTraces = false) (x0 : Nat) (x1 : Int32) (x2 : Int32) : Cs l g M_X5_of cvI [.ref x0, .int x1, .int x2] (f_X5_of (gt0 g) (gmi g) x0 x1 x2) :=
  Cs_of_I [(0, .ref x0), (1, .int x1), (2, .int x2)] rfl (by decide) hst (Nat.le_of_ble_eq_true rfl) rfl (I_X5_of hst x0 x1 x2)
/-! LunchMarksLaw.of(LLunchMarks;II[J)I -/
abbrev M_L_of : MS := (yL_of, cL_of, 5, (some .int), tableOf [(0, 10, 13, 13)], 8, 127)
theorem pd_L_of : (parseMethodDescriptor (mY M_L_of).desc).map (fun d => d.parameters.length) = some 4 := by decide +kernel
def f_L_of (t0 mi : Nat) (x0 : Nat) (x1 : Int32) (x2 : Int32) (x3 : Nat) : Mo Int32 :=
    ctc (vc x0 6 (f_X5_of t0 mi x0 x1 x2)) (fun v5 =>
    bnd (stL x3 (0 : Int32) v5.toInt64) fun _ =>
    rt (0 : Int32)) (fun E =>
    (if E = "java/util/NoSuchElementException" then
    rt (1 : Int32)
    else
    flr))
set_option maxRecDepth 20000 in
theorem I_L_of {l : Launch} {g : GX} (hst : l.stackTraces = false) (x0 : Nat) (x1 : Int32) (x2 : Int32) (x3 : Nat) : I l g M_L_of cvI 0 [(0, .ref x0), (1, .int x1), (2, .int x2), (3, .ref x3)] [] (f_L_of (gt0 g) (gmi g) x0 x1 x2 x3) := by
  unfold f_L_of
  refine I_aload_n 3 1 dL_of_0 rfl rfl rfl ?_
  refine I_iconst (0 : Int32) 2 dL_of_1 rfl (by decide) ?_
  refine I_aload_n 0 3 dL_of_2 rfl rfl rfl ?_
  refine I_iload_n 1 4 dL_of_3 rfl rfl rfl ?_
  refine I_iload_n 2 5 dL_of_4 rfl rfl rfl ?_
  refine I_callVc1 (As := [.int x1, .int x2]) (rest := [.int (0 : Int32), .ref x3]) 8 (C_X5_of hst x0 x1 x2) dL_of_5 rfl cl6 rfl (by decide) (Nat.le_of_ble_eq_true rfl) wcd_507 win_81 wml_508 wim_509 wse_510 ⟨by decide, by decide, pd_X5_of⟩ rfl (by decide) (by decide) wcl_198 xc_N (fun v5 => ?_) (fun q13 => ?_)
  · refine I_i2l 9 dL_of_8 rfl ?_
    refine I_last 10 dL_of_9 rfl ?_
    refine I_goto 17 dL_of_10 rfl ?_
    refine I_iconst (0 : Int32) 18 dL_of_17 rfl (by decide) ?_
    exact I_iret dL_of_18 rfl
  · refine I_astore 15 [(4, .ref q13), (0, .ref x0), (1, .int x1), (2, .int x2), (3, .ref x3)] dL_of_13 rfl (by decide) rfl ?_
    refine I_iconst (1 : Int32) 16 dL_of_15 rfl (by decide) ?_
    exact I_iret dL_of_16 rfl
theorem C_L_of {l : Launch} {g : GX} (hst : l.stackTraces = false) (x0 : Nat) (x1 : Int32) (x2 : Int32) (x3 : Nat) : CsW l g M_L_of [(0, 10, 13, 13)] cvI [.ref x0, .int x1, .int x2, .ref x3] (f_L_of (gt0 g) (gmi g) x0 x1 x2 x3) :=
  CsW_of_I [(0, .ref x0), (1, .int x1), (2, .int x2), (3, .ref x3)] rfl (by decide) hst (Nat.le_of_ble_eq_true rfl) rfl (I_L_of hst x0 x1 x2 x3)
/-! LunchMarksModel.isGone(I)Z -/
abbrev M_X6_isGone : MS := (yX6_isGone, cX6_isGone, 2, (some .boolean), [], 1, 21)
theorem pd_X6_isGone : (parseMethodDescriptor (mY M_X6_isGone).desc).map (fun d => d.parameters.length) = some 1 := by decide +kernel
def X6_isGone_b30 (t0 mi : Nat) (s0 : Int32) : Mo Int32 :=
    rtZ s0
set_option maxRecDepth 20000 in
theorem I_X6_isGone_b30 {l : Launch} {g : GX} (hst : l.stackTraces = false) (s0 : Int32) : I l g M_X6_isGone cvI 30 [] [.int s0] (X6_isGone_b30 (gt0 g) (gmi g) s0) := by
  unfold X6_isGone_b30
  exact I_zret dX6_isGone_30 rfl
def X6_isGone_b29 (t0 mi : Nat) : Mo Int32 :=
    X6_isGone_b30 t0 mi (0 : Int32)
set_option maxRecDepth 20000 in
theorem I_X6_isGone_b29 {l : Launch} {g : GX} (hst : l.stackTraces = false) : I l g M_X6_isGone cvI 29 [] [] (X6_isGone_b29 (gt0 g) (gmi g)) := by
  unfold X6_isGone_b29
  refine I_iconst (0 : Int32) 30 dX6_isGone_29 rfl (by decide) ?_
  refine I_sub [] [] rfl ?_
  exact I_X6_isGone_b30 hst (0 : Int32)
def f_X6_isGone (t0 mi : Nat) (x0 : Nat) (x1 : Int32) : Mo Int32 :=
    bnd (vc x0 7 (f_X6_readyOf t0 mi x0 x1)) fun v2 =>
    bnd (gI x0 7 1) fun v6 =>
    (if v6 < v2 then
    X6_isGone_b29 t0 mi
    else
    bnd (gA' x0 7 22) fun v13 =>
    bnd (vc x0 7 (f_X6_wayOf t0 mi x0 x1)) fun v18 =>
    bnd (ldK 2 v13 v18) fun v21 =>
    (if v21 = 0 then
    X6_isGone_b29 t0 mi
    else
    X6_isGone_b30 t0 mi (1 : Int32)))
set_option maxRecDepth 20000 in
theorem I_X6_isGone {l : Launch} {g : GX} (hst : l.stackTraces = false) (x0 : Nat) (x1 : Int32) : I l g M_X6_isGone cvI 0 [(0, .ref x0), (1, .int x1)] [] (f_X6_isGone (gt0 g) (gmi g) x0 x1) := by
  unfold f_X6_isGone
  refine I_aload_n 0 1 dX6_isGone_0 rfl rfl rfl ?_
  refine I_iload_n 1 2 dX6_isGone_1 rfl rfl rfl ?_
  refine I_callVi (As := [.int x1]) (rest := []) 5 (C_X6_readyOf hst x0 x1) dX6_isGone_2 rfl cl7 rfl (by decide) (Nat.le_of_ble_eq_true rfl) wcd_385 win_200 wml_386 wim_387 wse_388 ⟨by decide, by decide, pd_X6_readyOf⟩ (fun x hx => by cases hx) (fun v2 => ?_)
  refine I_aload_n 0 6 dX6_isGone_5 rfl rfl rfl ?_
  refine I_getI 9 dX6_isGone_6 rfl cl7 (by decide) wfl_393 sameF_rfl (fun v6 => ?_)
  refine I_icmp_gt 29 12 dX6_isGone_9 rfl rfl (fun _ => ?_) (fun _ => ?_)
  · refine I_sub [] [] rfl ?_
    exact I_X6_isGone_b29 hst
  · refine I_aload_n 0 13 dX6_isGone_12 rfl rfl rfl ?_
    refine I_getA 16 dX6_isGone_13 rfl cl7 (by decide) wfl_69 sameF_rfl (fun v13 => ?_)
    refine I_aload_n 0 17 dX6_isGone_16 rfl rfl rfl ?_
    refine I_iload_n 1 18 dX6_isGone_17 rfl rfl rfl ?_
    refine I_callVi (As := [.int x1]) (rest := [.ref v13]) 21 (C_X6_wayOf hst x0 x1) dX6_isGone_18 rfl cl7 rfl (by decide) (Nat.le_of_ble_eq_true rfl) wcd_362 win_200 wml_363 wim_364 wse_365 ⟨by decide, by decide, pd_X6_wayOf⟩ (fun x hx => by cases hx) (fun v18 => ?_)
    refine I_zald 22 dX6_isGone_21 rfl (fun v21 => ?_)
    refine I_if_eq 29 25 dX6_isGone_22 rfl rfl (fun _ => ?_) (fun _ => ?_)
    · refine I_sub [] [] rfl ?_
      exact I_X6_isGone_b29 hst
    · refine I_iconst (1 : Int32) 26 dX6_isGone_25 rfl (by decide) ?_
      refine I_goto 30 dX6_isGone_26 rfl ?_
      refine I_sub [] [] rfl ?_
      exact I_X6_isGone_b30 hst (1 : Int32)
theorem C_X6_isGone {l : Launch} {g : GX} (hst : l.stackTraces = false) (x0 : Nat) (x1 : Int32) : Cs l g M_X6_isGone cvI [.ref x0, .int x1] (f_X6_isGone (gt0 g) (gmi g) x0 x1) :=
  Cs_of_I [(0, .ref x0), (1, .int x1)] rfl (by decide) hst (Nat.le_of_ble_eq_true rfl) rfl (I_X6_isGone hst x0 x1)
/-! LunchMarksModel.isLate(I)Z -/
abbrev M_X6_isLate : MS := (yX6_isLate, cX6_isLate, 2, (some .boolean), [], 4, 87)
theorem pd_X6_isLate : (parseMethodDescriptor (mY M_X6_isLate).desc).map (fun d => d.parameters.length) = some 1 := by decide +kernel
def X6_isLate_b34 (t0 mi : Nat) (s0 : Int32) : Mo Int32 :=
    rtZ s0
set_option maxRecDepth 20000 in
theorem I_X6_isLate_b34 {l : Launch} {g : GX} (hst : l.stackTraces = false) (s0 : Int32) : I l g M_X6_isLate cvI 34 [] [.int s0] (X6_isLate_b34 (gt0 g) (gmi g) s0) := by
  unfold X6_isLate_b34
  exact I_zret dX6_isLate_34 rfl
def X6_isLate_b26 (t0 mi : Nat) (s0 : Int32) (s1 : Int32) : Mo Int32 :=
    (if s1 ≤ s0 then
    X6_isLate_b34 t0 mi (0 : Int32)
    else
    X6_isLate_b34 t0 mi (1 : Int32))
set_option maxRecDepth 20000 in
theorem I_X6_isLate_b26 {l : Launch} {g : GX} (hst : l.stackTraces = false) (s0 : Int32) (s1 : Int32) : I l g M_X6_isLate cvI 26 [] [.int s0, .int s1] (X6_isLate_b26 (gt0 g) (gmi g) s0 s1) := by
  unfold X6_isLate_b26
  refine I_icmp_le 33 29 dX6_isLate_26 rfl rfl (fun _ => ?_) (fun _ => ?_)
  · refine I_iconst (0 : Int32) 34 dX6_isLate_33 rfl (by decide) ?_
    refine I_sub [] [] rfl ?_
    exact I_X6_isLate_b34 hst (0 : Int32)
  · refine I_iconst (1 : Int32) 30 dX6_isLate_29 rfl (by decide) ?_
    refine I_goto 34 dX6_isLate_30 rfl ?_
    refine I_sub [] [] rfl ?_
    exact I_X6_isLate_b34 hst (1 : Int32)
def f_X6_isLate (t0 mi : Nat) (x0 : Nat) (x1 : Int32) : Mo Int32 :=
    bnd (vc x0 7 (f_X6_arrives t0 mi x0 x1)) fun v2 =>
    bnd (gA' x0 7 21) fun v6 =>
    bnd (ldK 2 v6 x1) fun v10 =>
    (if v10 = 0 then
    bnd (gA' x0 7 19) fun v21 =>
    bnd (ldK 0 v21 x1) fun v25 =>
    X6_isLate_b26 t0 mi v25 v2
    else
    X6_isLate_b26 t0 mi (1439 : Int32) v2)
set_option maxRecDepth 20000 in
theorem I_X6_isLate {l : Launch} {g : GX} (hst : l.stackTraces = false) (x0 : Nat) (x1 : Int32) : I l g M_X6_isLate cvI 0 [(0, .ref x0), (1, .int x1)] [] (f_X6_isLate (gt0 g) (gmi g) x0 x1) := by
  unfold f_X6_isLate
  refine I_aload_n 0 1 dX6_isLate_0 rfl rfl rfl ?_
  refine I_iload_n 1 2 dX6_isLate_1 rfl rfl rfl ?_
  refine I_callVi (As := [.int x1]) (rest := []) 5 (C_X6_arrives hst x0 x1) dX6_isLate_2 rfl cl7 rfl (by decide) (Nat.le_of_ble_eq_true rfl) wcd_490 win_200 wml_491 wim_492 wse_493 ⟨by decide, by decide, pd_X6_arrives⟩ (fun x hx => by cases hx) (fun v2 => ?_)
  refine I_aload_n 0 6 dX6_isLate_5 rfl rfl rfl ?_
  refine I_getA 9 dX6_isLate_6 rfl cl7 (by decide) wfl_68 sameF_rfl (fun v6 => ?_)
  refine I_iload_n 1 10 dX6_isLate_9 rfl rfl rfl ?_
  refine I_zald 11 dX6_isLate_10 rfl (fun v10 => ?_)
  refine I_if_eq 20 14 dX6_isLate_11 rfl rfl (fun _ => ?_) (fun _ => ?_)
  · refine I_aload_n 0 21 dX6_isLate_20 rfl rfl rfl ?_
    refine I_getA 24 dX6_isLate_21 rfl cl7 (by decide) wfl_66 sameF_rfl (fun v21 => ?_)
    refine I_iload_n 1 25 dX6_isLate_24 rfl rfl rfl ?_
    refine I_iald 26 dX6_isLate_25 rfl (fun v25 => ?_)
    refine I_sub [] [] rfl ?_
    exact I_X6_isLate_b26 hst v25 v2
  · refine I_sipush (1439 : Int32) 17 dX6_isLate_14 rfl (by decide) ?_
    refine I_goto 26 dX6_isLate_17 rfl ?_
    refine I_sub [] [] rfl ?_
    exact I_X6_isLate_b26 hst (1439 : Int32) v2
theorem C_X6_isLate {l : Launch} {g : GX} (hst : l.stackTraces = false) (x0 : Nat) (x1 : Int32) : Cs l g M_X6_isLate cvI [.ref x0, .int x1] (f_X6_isLate (gt0 g) (gmi g) x0 x1) :=
  Cs_of_I [(0, .ref x0), (1, .int x1)] rfl (by decide) hst (Nat.le_of_ble_eq_true rfl) rfl (I_X6_isLate hst x0 x1)
/-! LunchMarksModel.of(II)I -/
abbrev M_X6_of : MS := (yX6_of, cX6_of, 4, (some .int), [], 5, 108)
theorem pd_X6_of : (parseMethodDescriptor (mY M_X6_of).desc).map (fun d => d.parameters.length) = some 2 := by decide +kernel
def X6_of_b94 (t0 mi : Nat) (s0 : Int32) : Mo Int32 :=
    rt s0
set_option maxRecDepth 20000 in
theorem I_X6_of_b94 {l : Launch} {g : GX} (hst : l.stackTraces = false) (s0 : Int32) : I l g M_X6_of cvI 94 [] [.int s0] (X6_of_b94 (gt0 g) (gmi g) s0) := by
  unfold X6_of_b94
  exact I_iret dX6_of_94 rfl
def X6_of_b108 (t0 mi : Nat) (s0 : Int32) : Mo Int32 :=
    rt s0
set_option maxRecDepth 20000 in
theorem I_X6_of_b108 {l : Launch} {g : GX} (hst : l.stackTraces = false) (s0 : Int32) : I l g M_X6_of cvI 108 [] [.int s0] (X6_of_b108 (gt0 g) (gmi g) s0) := by
  unfold X6_of_b108
  exact I_iret dX6_of_108 rfl
def X6_of_b136 (t0 mi : Nat) (s0 : Int32) : Mo Int32 :=
    rt s0
set_option maxRecDepth 20000 in
theorem I_X6_of_b136 {l : Launch} {g : GX} (hst : l.stackTraces = false) (s0 : Int32) : I l g M_X6_of cvI 136 [] [.int s0] (X6_of_b136 (gt0 g) (gmi g) s0) := by
  unfold X6_of_b136
  exact I_iret dX6_of_136 rfl
def X6_of_b151 (t0 mi : Nat) (s0 : Int32) : Mo Int32 :=
    rt s0
set_option maxRecDepth 20000 in
theorem I_X6_of_b151 {l : Launch} {g : GX} (hst : l.stackTraces = false) (s0 : Int32) : I l g M_X6_of cvI 151 [] [.int s0] (X6_of_b151 (gt0 g) (gmi g) s0) := by
  unfold X6_of_b151
  exact I_iret dX6_of_151 rfl
def f_X6_of (t0 mi : Nat) (x0 : Nat) (x1 : Int32) (x2 : Int32) : Mo Int32 :=
    bnd (pV x0 7 0 (.int (0 : Int32))) fun _ =>
    bnd (vc x0 7 (f_X6_isBox t0 mi x0 x1)) fun v7 =>
    (if v7 = 0 then
    bnd (vc x0 7 (f_X6_fail t0 mi x0)) fun v14 =>
    rt v14
    else
    bnd (vc x0 7 (f_X6_wayOf t0 mi x0 x1)) fun v20 =>
    (if x2 = 0 then
    bnd (gA' x0 7 24) fun v69 =>
    bnd (ldK 0 v69 v20) fun v73 =>
    rt v73
    else
    (if x2 = 1 then
    bnd (vc x0 7 (f_X6_arrives t0 mi x0 x1)) fun v77 =>
    rt v77
    else
    (if x2 = 2 then
    bnd (vc x0 7 (f_X6_isGone t0 mi x0 x1)) fun v83 =>
    (if v83 = 0 then
    X6_of_b94 t0 mi (0 : Int32)
    else
    X6_of_b94 t0 mi (1 : Int32))
    else
    (if x2 = 3 then
    bnd (vc x0 7 (f_X6_isLate t0 mi x0 x1)) fun v97 =>
    (if v97 = 0 then
    X6_of_b108 t0 mi (0 : Int32)
    else
    X6_of_b108 t0 mi (1 : Int32))
    else
    (if x2 = 4 then
    bnd (gA' x0 7 25) fun v110 =>
    bnd (ldK 0 v110 v20) fun v114 =>
    rt v114
    else
    (if x2 = 5 then
    bnd (gA' x0 7 25) fun v117 =>
    bnd (ldK 0 v117 v20) fun v121 =>
    (if v121 = (-1 : Int32) then
    X6_of_b136 t0 mi (-1 : Int32)
    else
    bnd (gA' x0 7 26) fun v131 =>
    bnd (ldK 0 v131 v20) fun v135 =>
    X6_of_b136 t0 mi v135)
    else
    (if x2 = 6 then
    bnd (gA' x0 7 21) fun v138 =>
    bnd (ldK 2 v138 x1) fun v142 =>
    (if v142 = 0 then
    X6_of_b151 t0 mi (0 : Int32)
    else
    X6_of_b151 t0 mi (1 : Int32))
    else
    bnd (vc x0 7 (f_X6_fail t0 mi x0)) fun v153 =>
    rt v153))))))))
set_option maxRecDepth 20000 in
theorem I_X6_of {l : Launch} {g : GX} (hst : l.stackTraces = false) (x0 : Nat) (x1 : Int32) (x2 : Int32) : I l g M_X6_of cvI 0 [(0, .ref x0), (1, .int x1), (2, .int x2)] [] (f_X6_of (gt0 g) (gmi g) x0 x1 x2) := by
  unfold f_X6_of
  refine I_aload_n 0 1 dX6_of_0 rfl rfl rfl ?_
  refine I_iconst (0 : Int32) 2 dX6_of_1 rfl (by decide) ?_
  refine I_put 5 dX6_of_2 rfl cl7 (by decide) wfl_88 sameF_rfl rfl rfl rfl ?_
  refine I_aload_n 0 6 dX6_of_5 rfl rfl rfl ?_
  refine I_iload_n 1 7 dX6_of_6 rfl rfl rfl ?_
  refine I_callVi (As := [.int x1]) (rest := []) 10 (C_X6_isBox hst x0 x1) dX6_of_7 rfl cl7 rfl (by decide) (Nat.le_of_ble_eq_true rfl) wcd_486 win_200 wml_487 wim_488 wse_489 ⟨by decide, by decide, pd_X6_isBox⟩ (fun x hx => by cases hx) (fun v7 => ?_)
  refine I_if_ne 18 13 dX6_of_10 rfl rfl (fun _ => ?_) (fun _ => ?_)
  · refine I_aload_n 0 14 dX6_of_13 rfl rfl rfl ?_
    refine I_callVi (As := []) (rest := []) 17 (C_X6_fail hst x0) dX6_of_14 rfl cl7 rfl (by decide) (Nat.le_of_ble_eq_true rfl) wcd_204 win_200 wml_205 wim_206 wse_207 ⟨by decide, by decide, pd_X6_fail⟩ (fun x hx => by cases hx) (fun v14 => ?_)
    exact I_iret dX6_of_17 rfl
  · refine I_aload_n 0 19 dX6_of_18 rfl rfl rfl ?_
    refine I_iload_n 1 20 dX6_of_19 rfl rfl rfl ?_
    refine I_callVi (As := [.int x1]) (rest := []) 23 (C_X6_wayOf hst x0 x1) dX6_of_20 rfl cl7 rfl (by decide) (Nat.le_of_ble_eq_true rfl) wcd_362 win_200 wml_363 wim_364 wse_365 ⟨by decide, by decide, pd_X6_wayOf⟩ (fun x hx => by cases hx) (fun v20 => ?_)
    refine I_istore_n 24 [(3, .int v20), (0, .ref x0), (1, .int x1), (2, .int x2)] dX6_of_23 rfl rfl (by decide) rfl ?_
    refine I_iload_n 3 25 dX6_of_24 rfl rfl rfl ?_
    refine I_case (fun e0 => ?_) (fun e0 => ?_)
    · refine I_tableIn 68 dX6_of_25 (by rw [e0]; decide) (by rw [e0]; decide) (by rw [e0]; rfl) rfl ?_
      refine I_aload_n 1 69 dX6_of_68 rfl rfl rfl ?_
      refine I_getA 72 dX6_of_69 rfl cl7 (by decide) wfl_71 sameF_rfl (fun v69 => ?_)
      refine I_iload_n 0 73 dX6_of_72 rfl rfl rfl ?_
      refine I_iald 74 dX6_of_73 rfl (fun v73 => ?_)
      exact I_iret dX6_of_74 rfl
    refine I_case (fun e1 => ?_) (fun e1 => ?_)
    · refine I_tableIn 75 dX6_of_25 (by rw [e1]; decide) (by rw [e1]; decide) (by rw [e1]; rfl) rfl ?_
      refine I_aload_n 1 76 dX6_of_75 rfl rfl rfl ?_
      refine I_iload_n 2 77 dX6_of_76 rfl rfl rfl ?_
      refine I_callVi (As := [.int x1]) (rest := []) 80 (C_X6_arrives hst x0 x1) dX6_of_77 rfl cl7 rfl (by decide) (Nat.le_of_ble_eq_true rfl) wcd_490 win_200 wml_491 wim_492 wse_493 ⟨by decide, by decide, pd_X6_arrives⟩ (fun x hx => by cases hx) (fun v77 => ?_)
      exact I_iret dX6_of_80 rfl
    refine I_case (fun e2 => ?_) (fun e2 => ?_)
    · refine I_tableIn 81 dX6_of_25 (by rw [e2]; decide) (by rw [e2]; decide) (by rw [e2]; rfl) rfl ?_
      refine I_aload_n 1 82 dX6_of_81 rfl rfl rfl ?_
      refine I_iload_n 2 83 dX6_of_82 rfl rfl rfl ?_
      refine I_callVi (As := [.int x1]) (rest := []) 86 (C_X6_isGone hst x0 x1) dX6_of_83 rfl cl7 rfl (by decide) (Nat.le_of_ble_eq_true rfl) wcd_511 win_200 wml_512 wim_513 wse_514 ⟨by decide, by decide, pd_X6_isGone⟩ (fun x hx => by cases hx) (fun v83 => ?_)
      refine I_if_eq 93 89 dX6_of_86 rfl rfl (fun _ => ?_) (fun _ => ?_)
      · refine I_iconst (0 : Int32) 94 dX6_of_93 rfl (by decide) ?_
        refine I_sub [] [] rfl ?_
        exact I_X6_of_b94 hst (0 : Int32)
      · refine I_iconst (1 : Int32) 90 dX6_of_89 rfl (by decide) ?_
        refine I_goto 94 dX6_of_90 rfl ?_
        refine I_sub [] [] rfl ?_
        exact I_X6_of_b94 hst (1 : Int32)
    refine I_case (fun e3 => ?_) (fun e3 => ?_)
    · refine I_tableIn 95 dX6_of_25 (by rw [e3]; decide) (by rw [e3]; decide) (by rw [e3]; rfl) rfl ?_
      refine I_aload_n 1 96 dX6_of_95 rfl rfl rfl ?_
      refine I_iload_n 2 97 dX6_of_96 rfl rfl rfl ?_
      refine I_callVi (As := [.int x1]) (rest := []) 100 (C_X6_isLate hst x0 x1) dX6_of_97 rfl cl7 rfl (by decide) (Nat.le_of_ble_eq_true rfl) wcd_515 win_200 wml_516 wim_517 wse_518 ⟨by decide, by decide, pd_X6_isLate⟩ (fun x hx => by cases hx) (fun v97 => ?_)
      refine I_if_eq 107 103 dX6_of_100 rfl rfl (fun _ => ?_) (fun _ => ?_)
      · refine I_iconst (0 : Int32) 108 dX6_of_107 rfl (by decide) ?_
        refine I_sub [] [] rfl ?_
        exact I_X6_of_b108 hst (0 : Int32)
      · refine I_iconst (1 : Int32) 104 dX6_of_103 rfl (by decide) ?_
        refine I_goto 108 dX6_of_104 rfl ?_
        refine I_sub [] [] rfl ?_
        exact I_X6_of_b108 hst (1 : Int32)
    refine I_case (fun e4 => ?_) (fun e4 => ?_)
    · refine I_tableIn 109 dX6_of_25 (by rw [e4]; decide) (by rw [e4]; decide) (by rw [e4]; rfl) rfl ?_
      refine I_aload_n 1 110 dX6_of_109 rfl rfl rfl ?_
      refine I_getA 113 dX6_of_110 rfl cl7 (by decide) wfl_72 sameF_rfl (fun v110 => ?_)
      refine I_iload_n 0 114 dX6_of_113 rfl rfl rfl ?_
      refine I_iald 115 dX6_of_114 rfl (fun v114 => ?_)
      exact I_iret dX6_of_115 rfl
    refine I_case (fun e5 => ?_) (fun e5 => ?_)
    · refine I_tableIn 116 dX6_of_25 (by rw [e5]; decide) (by rw [e5]; decide) (by rw [e5]; rfl) rfl ?_
      refine I_aload_n 1 117 dX6_of_116 rfl rfl rfl ?_
      refine I_getA 120 dX6_of_117 rfl cl7 (by decide) wfl_72 sameF_rfl (fun v117 => ?_)
      refine I_iload_n 0 121 dX6_of_120 rfl rfl rfl ?_
      refine I_iald 122 dX6_of_121 rfl (fun v121 => ?_)
      refine I_iconst (-1 : Int32) 123 dX6_of_122 rfl (by decide) ?_
      refine I_icmp_ne 130 126 dX6_of_123 rfl rfl (fun _ => ?_) (fun _ => ?_)
      · refine I_iconst (-1 : Int32) 127 dX6_of_126 rfl (by decide) ?_
        refine I_goto 136 dX6_of_127 rfl ?_
        refine I_sub [] [] rfl ?_
        exact I_X6_of_b136 hst (-1 : Int32)
      · refine I_aload_n 1 131 dX6_of_130 rfl rfl rfl ?_
        refine I_getA 134 dX6_of_131 rfl cl7 (by decide) wfl_73 sameF_rfl (fun v131 => ?_)
        refine I_iload_n 0 135 dX6_of_134 rfl rfl rfl ?_
        refine I_iald 136 dX6_of_135 rfl (fun v135 => ?_)
        refine I_sub [] [] rfl ?_
        exact I_X6_of_b136 hst v135
    refine I_case (fun e6 => ?_) (fun e6 => ?_)
    · refine I_tableIn 137 dX6_of_25 (by rw [e6]; decide) (by rw [e6]; decide) (by rw [e6]; rfl) rfl ?_
      refine I_aload_n 1 138 dX6_of_137 rfl rfl rfl ?_
      refine I_getA 141 dX6_of_138 rfl cl7 (by decide) wfl_68 sameF_rfl (fun v138 => ?_)
      refine I_iload_n 2 142 dX6_of_141 rfl rfl rfl ?_
      refine I_zald 143 dX6_of_142 rfl (fun v142 => ?_)
      refine I_if_eq 150 146 dX6_of_143 rfl rfl (fun _ => ?_) (fun _ => ?_)
      · refine I_iconst (0 : Int32) 151 dX6_of_150 rfl (by decide) ?_
        refine I_sub [] [] rfl ?_
        exact I_X6_of_b151 hst (0 : Int32)
      · refine I_iconst (1 : Int32) 147 dX6_of_146 rfl (by decide) ?_
        refine I_goto 151 dX6_of_147 rfl ?_
        refine I_sub [] [] rfl ?_
        exact I_X6_of_b151 hst (1 : Int32)
    refine I_tableOut 152 dX6_of_25 (tsw_6 e0 e1 e2 e3 e4 e5 e6) rfl ?_
    refine I_aload_n 1 153 dX6_of_152 rfl rfl rfl ?_
    refine I_callVi (As := []) (rest := []) 156 (C_X6_fail hst x0) dX6_of_153 rfl cl7 rfl (by decide) (Nat.le_of_ble_eq_true rfl) wcd_204 win_200 wml_205 wim_206 wse_207 ⟨by decide, by decide, pd_X6_fail⟩ (fun x hx => by cases hx) (fun v153 => ?_)
    exact I_iret dX6_of_156 rfl
theorem C_X6_of {l : Launch} {g : GX} (hst : l.stackTraces = false) (x0 : Nat) (x1 : Int32) (x2 : Int32) : Cs l g M_X6_of cvI [.ref x0, .int x1, .int x2] (f_X6_of (gt0 g) (gmi g) x0 x1 x2) :=
  Cs_of_I [(0, .ref x0), (1, .int x1), (2, .int x2)] rfl (by decide) hst (Nat.le_of_ble_eq_true rfl) rfl (I_X6_of hst x0 x1 x2)
