/-! LunchMarksModel.leadOn(III)Z -/
abbrev M_X6_leadOn : MS := (yX6_leadOn, cX6_leadOn, 7, (some .boolean), [], 6, 153)
theorem pd_X6_leadOn : (parseMethodDescriptor (mY M_X6_leadOn).desc).map (fun d => d.parameters.length) = some 3 := by decide +kernel
def f_X6_leadOn (t0 mi : Nat) (x0 : Nat) (x1 : Int32) (x2 : Int32) (x3 : Int32) : Mo Int32 :=
    bnd (vc x0 7 (f_X6_wayOf t0 mi x0 x1)) fun v2 =>
    bnd (gA' x0 7 24) fun v8 =>
    bnd (ldK 0 v8 v2) fun v13 =>
    bnd (vc x0 7 (f_X6_lead t0 mi x0 x1 x2 x3)) fun v20 =>
    bnd (vc x0 7 (f_X6_load0 t0 mi x0 v2 v13 (1 : Int32))) fun _ =>
    rtZ v20
set_option maxRecDepth 20000 in
theorem I_X6_leadOn {l : Launch} {g : GX} (hst : l.stackTraces = false) (x0 : Nat) (x1 : Int32) (x2 : Int32) (x3 : Int32) : I l g M_X6_leadOn cvI 0 [(0, .ref x0), (1, .int x1), (2, .int x2), (3, .int x3)] [] (f_X6_leadOn (gt0 g) (gmi g) x0 x1 x2 x3) := by
  unfold f_X6_leadOn
  refine I_aload_n 0 1 dX6_leadOn_0 rfl rfl rfl ?_
  refine I_iload_n 1 2 dX6_leadOn_1 rfl rfl rfl ?_
  refine I_callVi (As := [.int x1]) (rest := []) 5 (C_X6_wayOf hst x0 x1) dX6_leadOn_2 rfl cl7 rfl (by decide) (Nat.le_of_ble_eq_true rfl) wcd_362 win_200 wml_363 wim_364 wse_365 ⟨by decide, by decide, pd_X6_wayOf⟩ (fun x hx => by cases hx) (fun v2 => ?_)
  refine I_istore 7 [(4, .int v2), (0, .ref x0), (1, .int x1), (2, .int x2), (3, .int x3)] dX6_leadOn_5 rfl (by decide) rfl ?_
  refine I_aload_n 1 8 dX6_leadOn_7 rfl rfl rfl ?_
  refine I_getA 11 dX6_leadOn_8 rfl cl7 (by decide) wfl_71 sameF_rfl (fun v8 => ?_)
  refine I_iload 0 13 dX6_leadOn_11 rfl rfl ?_
  refine I_iald 14 dX6_leadOn_13 rfl (fun v13 => ?_)
  refine I_istore 16 [(5, .int v13), (4, .int v2), (0, .ref x0), (1, .int x1), (2, .int x2), (3, .int x3)] dX6_leadOn_14 rfl (by decide) rfl ?_
  refine I_aload_n 2 17 dX6_leadOn_16 rfl rfl rfl ?_
  refine I_iload_n 3 18 dX6_leadOn_17 rfl rfl rfl ?_
  refine I_iload_n 4 19 dX6_leadOn_18 rfl rfl rfl ?_
  refine I_iload_n 5 20 dX6_leadOn_19 rfl rfl rfl ?_
  refine I_callVi (As := [.int x1, .int x2, .int x3]) (rest := []) 23 (C_X6_lead hst x0 x1 x2 x3) dX6_leadOn_20 rfl cl7 rfl (by decide) (Nat.le_of_ble_eq_true rfl) wcd_377 win_200 wml_378 wim_379 wse_380 ⟨by decide, by decide, pd_X6_lead⟩ (fun x hx => by cases hx) (fun v20 => ?_)
  refine I_istore 25 [(6, .int v20), (5, .int v13), (4, .int v2), (0, .ref x0), (1, .int x1), (2, .int x2), (3, .int x3)] dX6_leadOn_23 rfl (by decide) rfl ?_
  refine I_aload_n 3 26 dX6_leadOn_25 rfl rfl rfl ?_
  refine I_iload 2 28 dX6_leadOn_26 rfl rfl ?_
  refine I_iload 1 30 dX6_leadOn_28 rfl rfl ?_
  refine I_iconst (1 : Int32) 31 dX6_leadOn_30 rfl (by decide) ?_
  refine I_callVv (As := [.int v2, .int v13, .int (1 : Int32)]) (rest := []) 34 (C_X6_load0 hst x0 v2 v13 (1 : Int32)) dX6_leadOn_31 rfl cl7 rfl (by decide) (Nat.le_of_ble_eq_true rfl) wcd_381 win_200 wml_382 wim_383 wse_384 ⟨by decide, by decide, pd_X6_load0⟩ (fun x hx => by cases hx) (fun _ => ?_)
  refine I_iload 0 36 dX6_leadOn_34 rfl rfl ?_
  exact I_zret dX6_leadOn_36 rfl
theorem C_X6_leadOn {l : Launch} {g : GX} (hst : l.stackTraces = false) (x0 : Nat) (x1 : Int32) (x2 : Int32) (x3 : Int32) : Cs l g M_X6_leadOn cvI [.ref x0, .int x1, .int x2, .int x3] (f_X6_leadOn (gt0 g) (gmi g) x0 x1 x2 x3) :=
  Cs_of_I [(0, .ref x0), (1, .int x1), (2, .int x2), (3, .int x3)] rfl (by decide) hst (Nat.le_of_ble_eq_true rfl) rfl (I_X6_leadOn hst x0 x1 x2 x3)
/-! LunchMarksModel.readyOf(I)I -/
abbrev M_X6_readyOf : MS := (yX6_readyOf, cX6_readyOf, 2, (some .int), [], 0, 0)
theorem pd_X6_readyOf : (parseMethodDescriptor (mY M_X6_readyOf).desc).map (fun d => d.parameters.length) = some 1 := by decide +kernel
def X6_readyOf_b24 (t0 mi : Nat) (s0 : Int32) : Mo Int32 :=
    rt s0
set_option maxRecDepth 20000 in
theorem I_X6_readyOf_b24 {l : Launch} {g : GX} (hst : l.stackTraces = false) (s0 : Int32) : I l g M_X6_readyOf cvI 24 [] [.int s0] (X6_readyOf_b24 (gt0 g) (gmi g) s0) := by
  unfold X6_readyOf_b24
  exact I_iret dX6_readyOf_24 rfl
def f_X6_readyOf (t0 mi : Nat) (x0 : Nat) (x1 : Int32) : Mo Int32 :=
    bnd (gA' x0 7 21) fun v1 =>
    bnd (ldK 2 v1 x1) fun v5 =>
    (if v5 = 0 then
    bnd (gA' x0 7 16) fun v19 =>
    bnd (ldK 0 v19 x1) fun v23 =>
    X6_readyOf_b24 t0 mi v23
    else
    bnd (gA' x0 7 20) fun v10 =>
    bnd (ldK 0 v10 x1) fun v14 =>
    X6_readyOf_b24 t0 mi v14)
set_option maxRecDepth 20000 in
theorem I_X6_readyOf {l : Launch} {g : GX} (hst : l.stackTraces = false) (x0 : Nat) (x1 : Int32) : I l g M_X6_readyOf cvI 0 [(0, .ref x0), (1, .int x1)] [] (f_X6_readyOf (gt0 g) (gmi g) x0 x1) := by
  unfold f_X6_readyOf
  refine I_aload_n 0 1 dX6_readyOf_0 rfl rfl rfl ?_
  refine I_getA 4 dX6_readyOf_1 rfl cl7 (by decide) wfl_68 sameF_rfl (fun v1 => ?_)
  refine I_iload_n 1 5 dX6_readyOf_4 rfl rfl rfl ?_
  refine I_zald 6 dX6_readyOf_5 rfl (fun v5 => ?_)
  refine I_if_eq 18 9 dX6_readyOf_6 rfl rfl (fun _ => ?_) (fun _ => ?_)
  · refine I_aload_n 0 19 dX6_readyOf_18 rfl rfl rfl ?_
    refine I_getA 22 dX6_readyOf_19 rfl cl7 (by decide) wfl_63 sameF_rfl (fun v19 => ?_)
    refine I_iload_n 1 23 dX6_readyOf_22 rfl rfl rfl ?_
    refine I_iald 24 dX6_readyOf_23 rfl (fun v23 => ?_)
    refine I_sub [] [] rfl ?_
    exact I_X6_readyOf_b24 hst v23
  · refine I_aload_n 0 10 dX6_readyOf_9 rfl rfl rfl ?_
    refine I_getA 13 dX6_readyOf_10 rfl cl7 (by decide) wfl_67 sameF_rfl (fun v10 => ?_)
    refine I_iload_n 1 14 dX6_readyOf_13 rfl rfl rfl ?_
    refine I_iald 15 dX6_readyOf_14 rfl (fun v14 => ?_)
    refine I_goto 24 dX6_readyOf_15 rfl ?_
    refine I_sub [] [] rfl ?_
    exact I_X6_readyOf_b24 hst v14
theorem C_X6_readyOf {l : Launch} {g : GX} (hst : l.stackTraces = false) (x0 : Nat) (x1 : Int32) : Cs l g M_X6_readyOf cvI [.ref x0, .int x1] (f_X6_readyOf (gt0 g) (gmi g) x0 x1) :=
  Cs_of_I [(0, .ref x0), (1, .int x1)] rfl (by decide) hst (Nat.le_of_ble_eq_true rfl) rfl (I_X6_readyOf hst x0 x1)
/-! LunchMarksModel.fromOf(I)I -/
abbrev M_X6_fromOf : MS := (yX6_fromOf, cX6_fromOf, 2, (some .int), [], 0, 0)
theorem pd_X6_fromOf : (parseMethodDescriptor (mY M_X6_fromOf).desc).map (fun d => d.parameters.length) = some 1 := by decide +kernel
def X6_fromOf_b24 (t0 mi : Nat) (s0 : Int32) : Mo Int32 :=
    rt s0
set_option maxRecDepth 20000 in
theorem I_X6_fromOf_b24 {l : Launch} {g : GX} (hst : l.stackTraces = false) (s0 : Int32) : I l g M_X6_fromOf cvI 24 [] [.int s0] (X6_fromOf_b24 (gt0 g) (gmi g) s0) := by
  unfold X6_fromOf_b24
  exact I_iret dX6_fromOf_24 rfl
def f_X6_fromOf (t0 mi : Nat) (x0 : Nat) (x1 : Int32) : Mo Int32 :=
    bnd (gA' x0 7 21) fun v1 =>
    bnd (ldK 2 v1 x1) fun v5 =>
    (if v5 = 0 then
    bnd (gA' x0 7 14) fun v19 =>
    bnd (ldK 0 v19 x1) fun v23 =>
    X6_fromOf_b24 t0 mi v23
    else
    bnd (gA' x0 7 17) fun v10 =>
    bnd (ldK 0 v10 x1) fun v14 =>
    X6_fromOf_b24 t0 mi v14)
set_option maxRecDepth 20000 in
theorem I_X6_fromOf {l : Launch} {g : GX} (hst : l.stackTraces = false) (x0 : Nat) (x1 : Int32) : I l g M_X6_fromOf cvI 0 [(0, .ref x0), (1, .int x1)] [] (f_X6_fromOf (gt0 g) (gmi g) x0 x1) := by
  unfold f_X6_fromOf
  refine I_aload_n 0 1 dX6_fromOf_0 rfl rfl rfl ?_
  refine I_getA 4 dX6_fromOf_1 rfl cl7 (by decide) wfl_68 sameF_rfl (fun v1 => ?_)
  refine I_iload_n 1 5 dX6_fromOf_4 rfl rfl rfl ?_
  refine I_zald 6 dX6_fromOf_5 rfl (fun v5 => ?_)
  refine I_if_eq 18 9 dX6_fromOf_6 rfl rfl (fun _ => ?_) (fun _ => ?_)
  · refine I_aload_n 0 19 dX6_fromOf_18 rfl rfl rfl ?_
    refine I_getA 22 dX6_fromOf_19 rfl cl7 (by decide) wfl_61 sameF_rfl (fun v19 => ?_)
    refine I_iload_n 1 23 dX6_fromOf_22 rfl rfl rfl ?_
    refine I_iald 24 dX6_fromOf_23 rfl (fun v23 => ?_)
    refine I_sub [] [] rfl ?_
    exact I_X6_fromOf_b24 hst v23
  · refine I_aload_n 0 10 dX6_fromOf_9 rfl rfl rfl ?_
    refine I_getA 13 dX6_fromOf_10 rfl cl7 (by decide) wfl_64 sameF_rfl (fun v10 => ?_)
    refine I_iload_n 1 14 dX6_fromOf_13 rfl rfl rfl ?_
    refine I_iald 15 dX6_fromOf_14 rfl (fun v14 => ?_)
    refine I_goto 24 dX6_fromOf_15 rfl ?_
    refine I_sub [] [] rfl ?_
    exact I_X6_fromOf_b24 hst v14
theorem C_X6_fromOf {l : Launch} {g : GX} (hst : l.stackTraces = false) (x0 : Nat) (x1 : Int32) : Cs l g M_X6_fromOf cvI [.ref x0, .int x1] (f_X6_fromOf (gt0 g) (gmi g) x0 x1) :=
  Cs_of_I [(0, .ref x0), (1, .int x1)] rfl (by decide) hst (Nat.le_of_ble_eq_true rfl) rfl (I_X6_fromOf hst x0 x1)
/-! LunchMarksModel.sortedAt(I)I -/
abbrev M_X6_sortedAt : MS := (yX6_sortedAt, cX6_sortedAt, 2, (some .int), [], 1, 21)
theorem pd_X6_sortedAt : (parseMethodDescriptor (mY M_X6_sortedAt).desc).map (fun d => d.parameters.length) = some 1 := by decide +kernel
def X6_sortedAt_b29 (t0 mi : Nat) (x0 : Nat) (x1 : Int32) (s0 : Int32) (s1 : Int32) : Mo Int32 :=
    bnd (gA' x0 7 6) fun v31 =>
    bnd (vc x0 7 (f_X6_fromOf t0 mi x0 x1)) fun v36 =>
    bnd (ldK 0 v31 v36) fun v39 =>
    rt ((s1 + s0) + v39)
set_option maxRecDepth 20000 in
theorem I_X6_sortedAt_b29 {l : Launch} {g : GX} (hst : l.stackTraces = false) (x0 : Nat) (x1 : Int32) (s0 : Int32) (s1 : Int32) : I l g M_X6_sortedAt cvI 29 [(0, .ref x0), (1, .int x1)] [.int s0, .int s1] (X6_sortedAt_b29 (gt0 g) (gmi g) x0 x1 s0 s1) := by
  unfold X6_sortedAt_b29
  refine I_iadd 30 dX6_sortedAt_29 rfl ?_
  refine I_aload_n 0 31 dX6_sortedAt_30 rfl rfl rfl ?_
  refine I_getA 34 dX6_sortedAt_31 rfl cl7 (by decide) wfl_52 sameF_rfl (fun v31 => ?_)
  refine I_aload_n 0 35 dX6_sortedAt_34 rfl rfl rfl ?_
  refine I_iload_n 1 36 dX6_sortedAt_35 rfl rfl rfl ?_
  refine I_callVi (As := [.int x1]) (rest := [.ref v31, .int (s1 + s0)]) 39 (C_X6_fromOf hst x0 x1) dX6_sortedAt_36 rfl cl7 rfl (by decide) (Nat.le_of_ble_eq_true rfl) wcd_389 win_200 wml_390 wim_391 wse_392 ⟨by decide, by decide, pd_X6_fromOf⟩ (fun x hx => by cases hx) (fun v36 => ?_)
  refine I_iald 40 dX6_sortedAt_39 rfl (fun v39 => ?_)
  refine I_iadd 41 dX6_sortedAt_40 rfl ?_
  exact I_iret dX6_sortedAt_41 rfl
def f_X6_sortedAt (t0 mi : Nat) (x0 : Nat) (x1 : Int32) : Mo Int32 :=
    bnd (vc x0 7 (f_X6_readyOf t0 mi x0 x1)) fun v2 =>
    bnd (gA' x0 7 21) fun v6 =>
    bnd (ldK 2 v6 x1) fun v10 =>
    (if v10 = 0 then
    bnd (gA' x0 7 15) fun v24 =>
    bnd (ldK 0 v24 x1) fun v28 =>
    X6_sortedAt_b29 t0 mi x0 x1 v28 v2
    else
    bnd (gA' x0 7 18) fun v15 =>
    bnd (ldK 0 v15 x1) fun v19 =>
    X6_sortedAt_b29 t0 mi x0 x1 v19 v2)
set_option maxRecDepth 20000 in
theorem I_X6_sortedAt {l : Launch} {g : GX} (hst : l.stackTraces = false) (x0 : Nat) (x1 : Int32) : I l g M_X6_sortedAt cvI 0 [(0, .ref x0), (1, .int x1)] [] (f_X6_sortedAt (gt0 g) (gmi g) x0 x1) := by
  unfold f_X6_sortedAt
  refine I_aload_n 0 1 dX6_sortedAt_0 rfl rfl rfl ?_
  refine I_iload_n 1 2 dX6_sortedAt_1 rfl rfl rfl ?_
  refine I_callVi (As := [.int x1]) (rest := []) 5 (C_X6_readyOf hst x0 x1) dX6_sortedAt_2 rfl cl7 rfl (by decide) (Nat.le_of_ble_eq_true rfl) wcd_385 win_200 wml_386 wim_387 wse_388 ⟨by decide, by decide, pd_X6_readyOf⟩ (fun x hx => by cases hx) (fun v2 => ?_)
  refine I_aload_n 0 6 dX6_sortedAt_5 rfl rfl rfl ?_
  refine I_getA 9 dX6_sortedAt_6 rfl cl7 (by decide) wfl_68 sameF_rfl (fun v6 => ?_)
  refine I_iload_n 1 10 dX6_sortedAt_9 rfl rfl rfl ?_
  refine I_zald 11 dX6_sortedAt_10 rfl (fun v10 => ?_)
  refine I_if_eq 23 14 dX6_sortedAt_11 rfl rfl (fun _ => ?_) (fun _ => ?_)
  · refine I_aload_n 0 24 dX6_sortedAt_23 rfl rfl rfl ?_
    refine I_getA 27 dX6_sortedAt_24 rfl cl7 (by decide) wfl_62 sameF_rfl (fun v24 => ?_)
    refine I_iload_n 1 28 dX6_sortedAt_27 rfl rfl rfl ?_
    refine I_iald 29 dX6_sortedAt_28 rfl (fun v28 => ?_)
    refine I_sub [(0, .ref x0), (1, .int x1)] [0, 1] rfl ?_
    exact I_X6_sortedAt_b29 hst x0 x1 v28 v2
  · refine I_aload_n 0 15 dX6_sortedAt_14 rfl rfl rfl ?_
    refine I_getA 18 dX6_sortedAt_15 rfl cl7 (by decide) wfl_65 sameF_rfl (fun v15 => ?_)
    refine I_iload_n 1 19 dX6_sortedAt_18 rfl rfl rfl ?_
    refine I_iald 20 dX6_sortedAt_19 rfl (fun v19 => ?_)
    refine I_goto 29 dX6_sortedAt_20 rfl ?_
    refine I_sub [(0, .ref x0), (1, .int x1)] [0, 1] rfl ?_
    exact I_X6_sortedAt_b29 hst x0 x1 v19 v2
theorem C_X6_sortedAt {l : Launch} {g : GX} (hst : l.stackTraces = false) (x0 : Nat) (x1 : Int32) : Cs l g M_X6_sortedAt cvI [.ref x0, .int x1] (f_X6_sortedAt (gt0 g) (gmi g) x0 x1) :=
  Cs_of_I [(0, .ref x0), (1, .int x1)] rfl (by decide) hst (Nat.le_of_ble_eq_true rfl) rfl (I_X6_sortedAt hst x0 x1)
/-! LunchMarksModel.plan()I -/
abbrev M_X6_plan : MS := (yX6_plan, cX6_plan, 4, (some .int), [], 7, 179)
theorem pd_X6_plan : (parseMethodDescriptor (mY M_X6_plan).desc).map (fun d => d.parameters.length) = some 0 := by decide +kernel
def X6_plan_b118 (t0 mi : Nat) (kh9 : Int32 → Int32 → Mo Int32) (x0 : Nat) (x1 : Int32) (x2 : Int32) : Mo Int32 :=
    kh9 x1 (x2 + 1)
set_option maxRecDepth 20000 in
theorem I_X6_plan_b118 {l : Launch} {g : GX} (hst : l.stackTraces = false) (x0 : Nat) (x1 : Int32) (x2 : Int32) (kh9 : Int32 → Int32 → Mo Int32) (hkh9 : ∀ (z1 : Int32) (z2 : Int32), I l g M_X6_plan cvI 9 [(0, .ref x0), (1, .int z1), (2, .int z2)] [] (kh9 z1 z2)) : I l g M_X6_plan cvI 118 [(0, .ref x0), (1, .int x1), (2, .int x2)] [] (X6_plan_b118 (gt0 g) (gmi g) kh9 x0 x1 x2) := by
  unfold X6_plan_b118
  refine I_iinc 121 (x2 + 1) [(2, .int (x2 + 1)), (0, .ref x0), (1, .int x1)] 2 dX6_plan_118 rfl rfl rfl (by decide) rfl ?_
  refine I_goto 9 dX6_plan_121 rfl ?_
  refine I_sub [(0, .ref x0), (1, .int x1), (2, .int (x2 + 1))] [1, 2, 0] rfl ?_
  exact hkh9 x1 (x2 + 1)
def X6_plan_b116 (t0 mi : Nat) (kh9 : Int32 → Int32 → Mo Int32) (x0 : Nat) (x2 : Int32) (s0 : Int32) (s1 : Int32) : Mo Int32 :=
    X6_plan_b118 t0 mi kh9 x0 (s1 + s0) x2
set_option maxRecDepth 20000 in
theorem I_X6_plan_b116 {l : Launch} {g : GX} (hst : l.stackTraces = false) (x0 : Nat) (x2 : Int32) (s0 : Int32) (s1 : Int32) (kh9 : Int32 → Int32 → Mo Int32) (hkh9 : ∀ (z1 : Int32) (z2 : Int32), I l g M_X6_plan cvI 9 [(0, .ref x0), (1, .int z1), (2, .int z2)] [] (kh9 z1 z2)) : I l g M_X6_plan cvI 116 [(0, .ref x0), (2, .int x2)] [.int s0, .int s1] (X6_plan_b116 (gt0 g) (gmi g) kh9 x0 x2 s0 s1) := by
  unfold X6_plan_b116
  refine I_iadd 117 dX6_plan_116 rfl ?_
  refine I_istore_n 118 [(1, .int (s1 + s0)), (0, .ref x0), (2, .int x2)] dX6_plan_117 rfl rfl (by decide) rfl ?_
  refine I_sub [(0, .ref x0), (1, .int (s1 + s0)), (2, .int x2)] [1, 0, 2] rfl ?_
  exact I_X6_plan_b118 hst x0 (s1 + s0) x2 _ hkh9
def X6_plan_b66 (t0 mi : Nat) (kh9 : Int32 → Int32 → Mo Int32) (x0 : Nat) (x2 : Int32) (s0 : Int32) (s1 : Int32) : Mo Int32 :=
    X6_plan_b118 t0 mi kh9 x0 (s1 + s0) x2
set_option maxRecDepth 20000 in
theorem I_X6_plan_b66 {l : Launch} {g : GX} (hst : l.stackTraces = false) (x0 : Nat) (x2 : Int32) (s0 : Int32) (s1 : Int32) (kh9 : Int32 → Int32 → Mo Int32) (hkh9 : ∀ (z1 : Int32) (z2 : Int32), I l g M_X6_plan cvI 9 [(0, .ref x0), (1, .int z1), (2, .int z2)] [] (kh9 z1 z2)) : I l g M_X6_plan cvI 66 [(0, .ref x0), (2, .int x2)] [.int s0, .int s1] (X6_plan_b66 (gt0 g) (gmi g) kh9 x0 x2 s0 s1) := by
  unfold X6_plan_b66
  refine I_iadd 67 dX6_plan_66 rfl ?_
  refine I_istore_n 68 [(1, .int (s1 + s0)), (0, .ref x0), (2, .int x2)] dX6_plan_67 rfl rfl (by decide) rfl ?_
  refine I_goto 118 dX6_plan_68 rfl ?_
  refine I_sub [(0, .ref x0), (1, .int (s1 + s0)), (2, .int x2)] [1, 0, 2] rfl ?_
  exact I_X6_plan_b118 hst x0 (s1 + s0) x2 _ hkh9
def X6_plan_L9 (t0 mi : Nat) (x0 : Nat) (kx : Int32 → Mo Int32) : Nat → Int32 → Int32 → Mo Int32
  | 0, _, _ => flr
  | n + 1, x1, x2 =>
    bnd (gI x0 7 4) fun v11 =>
    (if v11 ≤ x2 then
    kx x1
    else
    bnd (vc x0 7 (f_X6_wayOf t0 mi x0 x2)) fun v19 =>
    bnd (gA' x0 7 25) fun v24 =>
    bnd (ldK 0 v24 v19) fun v28 =>
    (if v28 = (-1 : Int32) then
    bnd (gA' x0 7 22) fun v72 =>
    bnd (ldK 2 v72 v19) fun v76 =>
    (if v76 = 0 then
    bnd (vc x0 7 (f_X6_readyOf t0 mi x0 x2)) fun v82 =>
    bnd (gI x0 7 1) fun v86 =>
    (if v82 < v86 then
    X6_plan_b118 t0 mi (X6_plan_L9 t0 mi x0 kx n) x0 x1 x2
    else
    bnd (vc x0 7 (f_X6_fromOf t0 mi x0 x2)) fun v97 =>
    bnd (vc x0 7 (f_X6_sortedAt t0 mi x0 x2)) fun v102 =>
    bnd (vc x0 7 (f_X6_leadOn t0 mi x0 x2 v97 v102)) fun v105 =>
    (if v105 = 0 then
    X6_plan_b116 t0 mi (X6_plan_L9 t0 mi x0 kx n) x0 x2 (0 : Int32) x1
    else
    X6_plan_b116 t0 mi (X6_plan_L9 t0 mi x0 kx n) x0 x2 (1 : Int32) x1))
    else
    X6_plan_b118 t0 mi (X6_plan_L9 t0 mi x0 kx n) x0 x1 x2)
    else
    bnd (gA' x0 7 25) fun v37 =>
    bnd (ldK 0 v37 v19) fun v41 =>
    bnd (gI x0 7 1) fun v43 =>
    bnd (gA' x0 7 26) fun v47 =>
    bnd (ldK 0 v47 v19) fun v51 =>
    bnd (vc x0 7 (f_X6_leadOn t0 mi x0 x2 v41 (mx v43 v51))) fun v55 =>
    (if v55 = 0 then
    X6_plan_b66 t0 mi (X6_plan_L9 t0 mi x0 kx n) x0 x2 (0 : Int32) x1
    else
    X6_plan_b66 t0 mi (X6_plan_L9 t0 mi x0 kx n) x0 x2 (1 : Int32) x1)))
set_option maxRecDepth 20000 in
theorem I_X6_plan_L9 {l : Launch} {g : GX} (hst : l.stackTraces = false) (x0 : Nat) (kx : Int32 → Mo Int32) (hkx : ∀ (z1 : Int32), I l g M_X6_plan cvI 124 [(1, .int z1)] [] (kx z1)) : ∀ (n : Nat) (x1 : Int32) (x2 : Int32), I l g M_X6_plan cvI 9 [(0, .ref x0), (1, .int x1), (2, .int x2)] [] (X6_plan_L9 (gt0 g) (gmi g) x0 kx n x1 x2) := by
  intro n
  induction n with
  | zero => intro x1 x2; rw [X6_plan_L9]; exact I_flr
  | succ n ih =>
    intro x1 x2; rw [X6_plan_L9]
    refine I_iload_n 2 10 dX6_plan_9 rfl rfl rfl ?_
    refine I_aload_n 0 11 dX6_plan_10 rfl rfl rfl ?_
    refine I_getI 14 dX6_plan_11 rfl cl7 (by decide) wfl_241 sameF_rfl (fun v11 => ?_)
    refine I_icmp_ge 124 17 dX6_plan_14 rfl rfl (fun _ => ?_) (fun _ => ?_)
    · refine I_sub [(1, .int x1)] [1] rfl ?_
      exact hkx x1
    · refine I_aload_n 0 18 dX6_plan_17 rfl rfl rfl ?_
      refine I_iload_n 2 19 dX6_plan_18 rfl rfl rfl ?_
      refine I_callVi (As := [.int x2]) (rest := []) 22 (C_X6_wayOf hst x0 x2) dX6_plan_19 rfl cl7 rfl (by decide) (Nat.le_of_ble_eq_true rfl) wcd_362 win_200 wml_363 wim_364 wse_365 ⟨by decide, by decide, pd_X6_wayOf⟩ (fun x hx => by cases hx) (fun v19 => ?_)
      refine I_istore_n 23 [(3, .int v19), (0, .ref x0), (1, .int x1), (2, .int x2)] dX6_plan_22 rfl rfl (by decide) rfl ?_
      refine I_aload_n 1 24 dX6_plan_23 rfl rfl rfl ?_
      refine I_getA 27 dX6_plan_24 rfl cl7 (by decide) wfl_72 sameF_rfl (fun v24 => ?_)
      refine I_iload_n 0 28 dX6_plan_27 rfl rfl rfl ?_
      refine I_iald 29 dX6_plan_28 rfl (fun v28 => ?_)
      refine I_iconst (-1 : Int32) 30 dX6_plan_29 rfl (by decide) ?_
      refine I_icmp_eq 71 33 dX6_plan_30 rfl rfl (fun _ => ?_) (fun _ => ?_)
      · refine I_aload_n 1 72 dX6_plan_71 rfl rfl rfl ?_
        refine I_getA 75 dX6_plan_72 rfl cl7 (by decide) wfl_69 sameF_rfl (fun v72 => ?_)
        refine I_iload_n 0 76 dX6_plan_75 rfl rfl rfl ?_
        refine I_zald 77 dX6_plan_76 rfl (fun v76 => ?_)
        refine I_if_ne 118 80 dX6_plan_77 rfl rfl (fun _ => ?_) (fun _ => ?_)
        · refine I_aload_n 1 81 dX6_plan_80 rfl rfl rfl ?_
          refine I_iload_n 3 82 dX6_plan_81 rfl rfl rfl ?_
          refine I_callVi (As := [.int x2]) (rest := []) 85 (C_X6_readyOf hst x0 x2) dX6_plan_82 rfl cl7 rfl (by decide) (Nat.le_of_ble_eq_true rfl) wcd_385 win_200 wml_386 wim_387 wse_388 ⟨by decide, by decide, pd_X6_readyOf⟩ (fun x hx => by cases hx) (fun v82 => ?_)
          refine I_aload_n 1 86 dX6_plan_85 rfl rfl rfl ?_
          refine I_getI 89 dX6_plan_86 rfl cl7 (by decide) wfl_393 sameF_rfl (fun v86 => ?_)
          refine I_icmp_lt 118 92 dX6_plan_89 rfl rfl (fun _ => ?_) (fun _ => ?_)
          · refine I_sub [(0, .ref x0), (1, .int x1), (2, .int x2)] [1, 2, 3] rfl ?_
            exact I_X6_plan_b118 hst x0 x1 x2 _ ih
          · refine I_iload_n 2 93 dX6_plan_92 rfl rfl rfl ?_
            refine I_aload_n 1 94 dX6_plan_93 rfl rfl rfl ?_
            refine I_iload_n 3 95 dX6_plan_94 rfl rfl rfl ?_
            refine I_aload_n 1 96 dX6_plan_95 rfl rfl rfl ?_
            refine I_iload_n 3 97 dX6_plan_96 rfl rfl rfl ?_
            refine I_callVi (As := [.int x2]) (rest := [.int x2, .ref x0, .int x1]) 100 (C_X6_fromOf hst x0 x2) dX6_plan_97 rfl cl7 rfl (by decide) (Nat.le_of_ble_eq_true rfl) wcd_389 win_200 wml_390 wim_391 wse_392 ⟨by decide, by decide, pd_X6_fromOf⟩ (fun x hx => by cases hx) (fun v97 => ?_)
            refine I_aload_n 1 101 dX6_plan_100 rfl rfl rfl ?_
            refine I_iload_n 3 102 dX6_plan_101 rfl rfl rfl ?_
            refine I_callVi (As := [.int x2]) (rest := [.int v97, .int x2, .ref x0, .int x1]) 105 (C_X6_sortedAt hst x0 x2) dX6_plan_102 rfl cl7 rfl (by decide) (Nat.le_of_ble_eq_true rfl) wcd_394 win_200 wml_395 wim_396 wse_397 ⟨by decide, by decide, pd_X6_sortedAt⟩ (fun x hx => by cases hx) (fun v102 => ?_)
            refine I_callVi (As := [.int x2, .int v97, .int v102]) (rest := [.int x1]) 108 (C_X6_leadOn hst x0 x2 v97 v102) dX6_plan_105 rfl cl7 rfl (by decide) (Nat.le_of_ble_eq_true rfl) wcd_398 win_200 wml_399 wim_400 wse_401 ⟨by decide, by decide, pd_X6_leadOn⟩ (fun x hx => by cases hx) (fun v105 => ?_)
            refine I_if_eq 115 111 dX6_plan_108 rfl rfl (fun _ => ?_) (fun _ => ?_)
            · refine I_iconst (0 : Int32) 116 dX6_plan_115 rfl (by decide) ?_
              refine I_sub [(0, .ref x0), (2, .int x2)] [1, 3] rfl ?_
              exact I_X6_plan_b116 hst x0 x2 (0 : Int32) x1 _ ih
            · refine I_iconst (1 : Int32) 112 dX6_plan_111 rfl (by decide) ?_
              refine I_goto 116 dX6_plan_112 rfl ?_
              refine I_sub [(0, .ref x0), (2, .int x2)] [1, 3] rfl ?_
              exact I_X6_plan_b116 hst x0 x2 (1 : Int32) x1 _ ih
        · refine I_sub [(0, .ref x0), (1, .int x1), (2, .int x2)] [1, 2, 3] rfl ?_
          exact I_X6_plan_b118 hst x0 x1 x2 _ ih
      · refine I_iload_n 2 34 dX6_plan_33 rfl rfl rfl ?_
        refine I_aload_n 1 35 dX6_plan_34 rfl rfl rfl ?_
        refine I_iload_n 3 36 dX6_plan_35 rfl rfl rfl ?_
        refine I_aload_n 1 37 dX6_plan_36 rfl rfl rfl ?_
        refine I_getA 40 dX6_plan_37 rfl cl7 (by decide) wfl_72 sameF_rfl (fun v37 => ?_)
        refine I_iload_n 0 41 dX6_plan_40 rfl rfl rfl ?_
        refine I_iald 42 dX6_plan_41 rfl (fun v41 => ?_)
        refine I_aload_n 1 43 dX6_plan_42 rfl rfl rfl ?_
        refine I_getI 46 dX6_plan_43 rfl cl7 (by decide) wfl_393 sameF_rfl (fun v43 => ?_)
        refine I_aload_n 1 47 dX6_plan_46 rfl rfl rfl ?_
        refine I_getA 50 dX6_plan_47 rfl cl7 (by decide) wfl_73 sameF_rfl (fun v47 => ?_)
        refine I_iload_n 0 51 dX6_plan_50 rfl rfl rfl ?_
        refine I_iald 52 dX6_plan_51 rfl (fun v51 => ?_)
        refine I_mmax 55 dX6_plan_52 rfl wml_402 (by decide) (Nat.le_of_ble_eq_true rfl) ?_
        refine I_callVi (As := [.int x2, .int v41, .int (mx v43 v51)]) (rest := [.int x1]) 58 (C_X6_leadOn hst x0 x2 v41 (mx v43 v51)) dX6_plan_55 rfl cl7 rfl (by decide) (Nat.le_of_ble_eq_true rfl) wcd_398 win_200 wml_399 wim_400 wse_401 ⟨by decide, by decide, pd_X6_leadOn⟩ (fun x hx => by cases hx) (fun v55 => ?_)
        refine I_if_eq 65 61 dX6_plan_58 rfl rfl (fun _ => ?_) (fun _ => ?_)
        · refine I_iconst (0 : Int32) 66 dX6_plan_65 rfl (by decide) ?_
          refine I_sub [(0, .ref x0), (2, .int x2)] [1, 3] rfl ?_
          exact I_X6_plan_b66 hst x0 x2 (0 : Int32) x1 _ ih
        · refine I_iconst (1 : Int32) 62 dX6_plan_61 rfl (by decide) ?_
          refine I_goto 66 dX6_plan_62 rfl ?_
          refine I_sub [(0, .ref x0), (2, .int x2)] [1, 3] rfl ?_
          exact I_X6_plan_b66 hst x0 x2 (1 : Int32) x1 _ ih
def f_X6_plan (t0 mi : Nat) (x0 : Nat) : Mo Int32 :=
    bnd (pV x0 7 0 (.int (0 : Int32))) fun _ =>
    X6_plan_L9 t0 mi x0 (fun y1_1 =>
    rt y1_1) FU (0 : Int32) (0 : Int32)
set_option maxRecDepth 20000 in
theorem I_X6_plan {l : Launch} {g : GX} (hst : l.stackTraces = false) (x0 : Nat) : I l g M_X6_plan cvI 0 [(0, .ref x0)] [] (f_X6_plan (gt0 g) (gmi g) x0) := by
  unfold f_X6_plan
  refine I_aload_n 0 1 dX6_plan_0 rfl rfl rfl ?_
  refine I_iconst (0 : Int32) 2 dX6_plan_1 rfl (by decide) ?_
  refine I_put 5 dX6_plan_2 rfl cl7 (by decide) wfl_88 sameF_rfl rfl rfl rfl ?_
  refine I_iconst (0 : Int32) 6 dX6_plan_5 rfl (by decide) ?_
  refine I_istore_n 7 [(1, .int (0 : Int32)), (0, .ref x0)] dX6_plan_6 rfl rfl (by decide) rfl ?_
  refine I_iconst (0 : Int32) 8 dX6_plan_7 rfl (by decide) ?_
  refine I_istore_n 9 [(2, .int (0 : Int32)), (1, .int (0 : Int32)), (0, .ref x0)] dX6_plan_8 rfl rfl (by decide) rfl ?_
  refine I_sub [(0, .ref x0), (1, .int (0 : Int32)), (2, .int (0 : Int32))] [2, 1, 0] rfl ?_
  refine I_X6_plan_L9 hst x0 _ (fun y1_1 => ?_) FU (0 : Int32) (0 : Int32)
  refine I_iload_n 0 125 dX6_plan_124 rfl rfl rfl ?_
  exact I_iret dX6_plan_125 rfl
theorem C_X6_plan {l : Launch} {g : GX} (hst : l.stackTraces = false) (x0 : Nat) : Cs l g M_X6_plan cvI [.ref x0] (f_X6_plan (gt0 g) (gmi g) x0) :=
  Cs_of_I [(0, .ref x0)] rfl (by decide) hst (Nat.le_of_ble_eq_true rfl) rfl (I_X6_plan hst x0)
/-! LunchMarks.minutes(I)I -/
abbrev M_X5_minutes : MS := (yX5_minutes, cX5_minutes, 2, (some .int), [], 6, 82)
theorem pd_X5_minutes : (parseMethodDescriptor (mY M_X5_minutes).desc).map (fun d => d.parameters.length) = some 1 := by decide +kernel
def X5_minutes_b16 (t0 mi : Nat) : Mo Int32 :=
    thr "java/lang/IllegalArgumentException"
set_option maxRecDepth 20000 in
theorem I_X5_minutes_b16 {l : Launch} {g : GX} (hst : l.stackTraces = false) : I l g M_X5_minutes cvI 16 [] [] (X5_minutes_b16 (gt0 g) (gmi g)) := by
  unfold X5_minutes_b16
  exact I_throw (k := 0) (names := thn) dX5_minutes_16 dX5_minutes_19 dX5_minutes_20 dX5_minutes_22 dX5_minutes_25 rfl rfl (by decide) (by decide) wcl_403 win_404 thA_104 tgA_104 rfl (by decide) (Nat.le_of_ble_eq_true rfl)
def f_X5_minutes (t0 mi : Nat) (x0 : Nat) (x1 : Int32) : Mo Int32 :=
    (if x1 < 0 then
    X5_minutes_b16 t0 mi
    else
    bnd (gI x0 6 4) fun v9 =>
    (if x1 ≤ ((1439 : Int32) - v9) then
    bnd (gI x0 6 4) fun v28 =>
    bnd (pV x0 6 4 (.int (v28 + x1))) fun _ =>
    bnd (gI x0 6 4) fun v37 =>
    rt v37
    else
    X5_minutes_b16 t0 mi))
set_option maxRecDepth 20000 in
theorem I_X5_minutes {l : Launch} {g : GX} (hst : l.stackTraces = false) (x0 : Nat) (x1 : Int32) : I l g M_X5_minutes cvI 0 [(0, .ref x0), (1, .int x1)] [] (f_X5_minutes (gt0 g) (gmi g) x0 x1) := by
  unfold f_X5_minutes
  refine I_iload_n 1 1 dX5_minutes_0 rfl rfl rfl ?_
  refine I_if_lt 16 4 dX5_minutes_1 rfl rfl (fun _ => ?_) (fun _ => ?_)
  · refine I_sub [] [] rfl ?_
    exact I_X5_minutes_b16 hst
  · refine I_iload_n 1 5 dX5_minutes_4 rfl rfl rfl ?_
    refine I_sipush (1439 : Int32) 8 dX5_minutes_5 rfl (by decide) ?_
    refine I_aload_n 0 9 dX5_minutes_8 rfl rfl rfl ?_
    refine I_getI 12 dX5_minutes_9 rfl cl6 (by decide) wfl_50 sameF_rfl (fun v9 => ?_)
    refine I_isub 13 dX5_minutes_12 rfl ?_
    refine I_icmp_le 26 16 dX5_minutes_13 rfl rfl (fun _ => ?_) (fun _ => ?_)
    · refine I_aload_n 0 27 dX5_minutes_26 rfl rfl rfl ?_
      refine I_dup 28 dX5_minutes_27 rfl rfl ?_
      refine I_getI 31 dX5_minutes_28 rfl cl6 (by decide) wfl_50 sameF_rfl (fun v28 => ?_)
      refine I_iload_n 1 32 dX5_minutes_31 rfl rfl rfl ?_
      refine I_iadd 33 dX5_minutes_32 rfl ?_
      refine I_put 36 dX5_minutes_33 rfl cl6 (by decide) wfl_50 sameF_rfl rfl rfl rfl ?_
      refine I_aload_n 0 37 dX5_minutes_36 rfl rfl rfl ?_
      refine I_getI 40 dX5_minutes_37 rfl cl6 (by decide) wfl_50 sameF_rfl (fun v37 => ?_)
      exact I_iret dX5_minutes_40 rfl
    · refine I_sub [] [] rfl ?_
      exact I_X5_minutes_b16 hst
theorem C_X5_minutes {l : Launch} {g : GX} (hst : l.stackTraces = false) (x0 : Nat) (x1 : Int32) : Cs l g M_X5_minutes cvI [.ref x0, .int x1] (f_X5_minutes (gt0 g) (gmi g) x0 x1) :=
  Cs_of_I [(0, .ref x0), (1, .int x1)] rfl (by decide) hst (Nat.le_of_ble_eq_true rfl) rfl (I_X5_minutes hst x0 x1)
/-! LunchMarksLaw.minutes(LLunchMarks;I[J)I -/
abbrev M_L_minutes : MS := (yL_minutes, cL_minutes, 4, (some .int), tableOf [(0, 9, 12, 19)], 7, 103)
theorem pd_L_minutes : (parseMethodDescriptor (mY M_L_minutes).desc).map (fun d => d.parameters.length) = some 3 := by decide +kernel
def f_L_minutes (t0 mi : Nat) (x0 : Nat) (x1 : Int32) (x2 : Nat) : Mo Int32 :=
    ctc (vc x0 6 (f_X5_minutes t0 mi x0 x1)) (fun v4 =>
    bnd (stL x2 (0 : Int32) v4.toInt64) fun _ =>
    rt (0 : Int32)) (fun E =>
    (if E = "java/lang/IllegalArgumentException" then
    rt (1 : Int32)
    else
    flr))
set_option maxRecDepth 20000 in
theorem I_L_minutes {l : Launch} {g : GX} (hst : l.stackTraces = false) (x0 : Nat) (x1 : Int32) (x2 : Nat) : I l g M_L_minutes cvI 0 [(0, .ref x0), (1, .int x1), (2, .ref x2)] [] (f_L_minutes (gt0 g) (gmi g) x0 x1 x2) := by
  unfold f_L_minutes
  refine I_aload_n 2 1 dL_minutes_0 rfl rfl rfl ?_
  refine I_iconst (0 : Int32) 2 dL_minutes_1 rfl (by decide) ?_
  refine I_aload_n 0 3 dL_minutes_2 rfl rfl rfl ?_
  refine I_iload_n 1 4 dL_minutes_3 rfl rfl rfl ?_
  refine I_callVc1 (As := [.int x1]) (rest := [.int (0 : Int32), .ref x2]) 7 (C_X5_minutes hst x0 x1) dL_minutes_4 rfl cl6 rfl (by decide) (Nat.le_of_ble_eq_true rfl) wcd_405 win_81 wml_406 wim_407 wse_408 ⟨by decide, by decide, pd_X5_minutes⟩ rfl (by decide) (by decide) wcl_409 xc_A (fun v4 => ?_) (fun q12 => ?_)
  · refine I_i2l 8 dL_minutes_7 rfl ?_
    refine I_last 9 dL_minutes_8 rfl ?_
    refine I_goto 15 dL_minutes_9 rfl ?_
    refine I_iconst (0 : Int32) 16 dL_minutes_15 rfl (by decide) ?_
    exact I_iret dL_minutes_16 rfl
  · refine I_astore_n 13 [(3, .ref q12), (0, .ref x0), (1, .int x1), (2, .ref x2)] dL_minutes_12 rfl rfl (by decide) rfl ?_
    refine I_iconst (1 : Int32) 14 dL_minutes_13 rfl (by decide) ?_
    exact I_iret dL_minutes_14 rfl
theorem C_L_minutes {l : Launch} {g : GX} (hst : l.stackTraces = false) (x0 : Nat) (x1 : Int32) (x2 : Nat) : CsW l g M_L_minutes [(0, 9, 12, 19)] cvI [.ref x0, .int x1, .ref x2] (f_L_minutes (gt0 g) (gmi g) x0 x1 x2) :=
  CsW_of_I [(0, .ref x0), (1, .int x1), (2, .ref x2)] rfl (by decide) hst (Nat.le_of_ble_eq_true rfl) rfl (I_L_minutes hst x0 x1 x2)
/-! LunchMarksModel.minutes(I)I -/
abbrev M_X6_minutes : MS := (yX6_minutes, cX6_minutes, 2, (some .int), [], 1, 20)
theorem pd_X6_minutes : (parseMethodDescriptor (mY M_X6_minutes).desc).map (fun d => d.parameters.length) = some 1 := by decide +kernel
def X6_minutes_b21 (t0 mi : Nat) (x0 : Nat) : Mo Int32 :=
    bnd (vc x0 7 (f_X6_fail t0 mi x0)) fun v22 =>
    rt v22
set_option maxRecDepth 20000 in
theorem I_X6_minutes_b21 {l : Launch} {g : GX} (hst : l.stackTraces = false) (x0 : Nat) : I l g M_X6_minutes cvI 21 [(0, .ref x0)] [] (X6_minutes_b21 (gt0 g) (gmi g) x0) := by
  unfold X6_minutes_b21
  refine I_aload_n 0 22 dX6_minutes_21 rfl rfl rfl ?_
  refine I_callVi (As := []) (rest := []) 25 (C_X6_fail hst x0) dX6_minutes_22 rfl cl7 rfl (by decide) (Nat.le_of_ble_eq_true rfl) wcd_204 win_200 wml_205 wim_206 wse_207 ⟨by decide, by decide, pd_X6_fail⟩ (fun x hx => by cases hx) (fun v22 => ?_)
  exact I_iret dX6_minutes_25 rfl
def f_X6_minutes (t0 mi : Nat) (x0 : Nat) (x1 : Int32) : Mo Int32 :=
    bnd (pV x0 7 0 (.int (0 : Int32))) fun _ =>
    (if x1 < 0 then
    X6_minutes_b21 t0 mi x0
    else
    bnd (gI x0 7 1) fun v14 =>
    (if x1 ≤ ((1439 : Int32) - v14) then
    bnd (gI x0 7 1) fun v28 =>
    bnd (pV x0 7 1 (.int (v28 + x1))) fun _ =>
    bnd (gI x0 7 1) fun v37 =>
    rt v37
    else
    X6_minutes_b21 t0 mi x0))
set_option maxRecDepth 20000 in
theorem I_X6_minutes {l : Launch} {g : GX} (hst : l.stackTraces = false) (x0 : Nat) (x1 : Int32) : I l g M_X6_minutes cvI 0 [(0, .ref x0), (1, .int x1)] [] (f_X6_minutes (gt0 g) (gmi g) x0 x1) := by
  unfold f_X6_minutes
  refine I_aload_n 0 1 dX6_minutes_0 rfl rfl rfl ?_
  refine I_iconst (0 : Int32) 2 dX6_minutes_1 rfl (by decide) ?_
  refine I_put 5 dX6_minutes_2 rfl cl7 (by decide) wfl_88 sameF_rfl rfl rfl rfl ?_
  refine I_iload_n 1 6 dX6_minutes_5 rfl rfl rfl ?_
  refine I_if_lt 21 9 dX6_minutes_6 rfl rfl (fun _ => ?_) (fun _ => ?_)
  · refine I_sub [(0, .ref x0)] [0] rfl ?_
    exact I_X6_minutes_b21 hst x0
  · refine I_iload_n 1 10 dX6_minutes_9 rfl rfl rfl ?_
    refine I_sipush (1439 : Int32) 13 dX6_minutes_10 rfl (by decide) ?_
    refine I_aload_n 0 14 dX6_minutes_13 rfl rfl rfl ?_
    refine I_getI 17 dX6_minutes_14 rfl cl7 (by decide) wfl_393 sameF_rfl (fun v14 => ?_)
    refine I_isub 18 dX6_minutes_17 rfl ?_
    refine I_icmp_le 26 21 dX6_minutes_18 rfl rfl (fun _ => ?_) (fun _ => ?_)
    · refine I_aload_n 0 27 dX6_minutes_26 rfl rfl rfl ?_
      refine I_dup 28 dX6_minutes_27 rfl rfl ?_
      refine I_getI 31 dX6_minutes_28 rfl cl7 (by decide) wfl_393 sameF_rfl (fun v28 => ?_)
      refine I_iload_n 1 32 dX6_minutes_31 rfl rfl rfl ?_
      refine I_iadd 33 dX6_minutes_32 rfl ?_
      refine I_put 36 dX6_minutes_33 rfl cl7 (by decide) wfl_393 sameF_rfl rfl rfl rfl ?_
      refine I_aload_n 0 37 dX6_minutes_36 rfl rfl rfl ?_
      refine I_getI 40 dX6_minutes_37 rfl cl7 (by decide) wfl_393 sameF_rfl (fun v37 => ?_)
      exact I_iret dX6_minutes_40 rfl
    · refine I_sub [(0, .ref x0)] [0] rfl ?_
      exact I_X6_minutes_b21 hst x0
theorem C_X6_minutes {l : Launch} {g : GX} (hst : l.stackTraces = false) (x0 : Nat) (x1 : Int32) : Cs l g M_X6_minutes cvI [.ref x0, .int x1] (f_X6_minutes (gt0 g) (gmi g) x0 x1) :=
  Cs_of_I [(0, .ref x0), (1, .int x1)] rfl (by decide) hst (Nat.le_of_ble_eq_true rfl) rfl (I_X6_minutes hst x0 x1)
/-! LunchMarks$Train.beginsAfter(I)Z -/
abbrev M_X3_beginsAfter : MS := (yX3_beginsAfter, cX3_beginsAfter, 2, (some .boolean), [], 0, 0)
theorem pd_X3_beginsAfter : (parseMethodDescriptor (mY M_X3_beginsAfter).desc).map (fun d => d.parameters.length) = some 1 := by decide +kernel
def X3_beginsAfter_b22 (t0 mi : Nat) (s0 : Int32) : Mo Int32 :=
    rtZ s0
set_option maxRecDepth 20000 in
theorem I_X3_beginsAfter_b22 {l : Launch} {g : GX} (hst : l.stackTraces = false) (s0 : Int32) : I l g M_X3_beginsAfter cvI 22 [] [.int s0] (X3_beginsAfter_b22 (gt0 g) (gmi g) s0) := by
  unfold X3_beginsAfter_b22
  exact I_zret dX3_beginsAfter_22 rfl
def X3_beginsAfter_b21 (t0 mi : Nat) : Mo Int32 :=
    X3_beginsAfter_b22 t0 mi (0 : Int32)
set_option maxRecDepth 20000 in
theorem I_X3_beginsAfter_b21 {l : Launch} {g : GX} (hst : l.stackTraces = false) : I l g M_X3_beginsAfter cvI 21 [] [] (X3_beginsAfter_b21 (gt0 g) (gmi g)) := by
  unfold X3_beginsAfter_b21
  refine I_iconst (0 : Int32) 22 dX3_beginsAfter_21 rfl (by decide) ?_
  refine I_sub [] [] rfl ?_
  exact I_X3_beginsAfter_b22 hst (0 : Int32)
def f_X3_beginsAfter (t0 mi : Nat) (x0 : Nat) (x1 : Int32) : Mo Int32 :=
    bnd (gI x0 4 4) fun v1 =>
    (if v1 ≤ 0 then
    X3_beginsAfter_b21 t0 mi
    else
    bnd (gA' x0 4 2) fun v8 =>
    bnd (ldK 0 v8 (0 : Int32)) fun v12 =>
    (if v12 ≤ x1 then
    X3_beginsAfter_b21 t0 mi
    else
    X3_beginsAfter_b22 t0 mi (1 : Int32)))
set_option maxRecDepth 20000 in
theorem I_X3_beginsAfter {l : Launch} {g : GX} (hst : l.stackTraces = false) (x0 : Nat) (x1 : Int32) : I l g M_X3_beginsAfter cvI 0 [(0, .ref x0), (1, .int x1)] [] (f_X3_beginsAfter (gt0 g) (gmi g) x0 x1) := by
  unfold f_X3_beginsAfter
  refine I_aload_n 0 1 dX3_beginsAfter_0 rfl rfl rfl ?_
  refine I_getI 4 dX3_beginsAfter_1 rfl cl4 (by decide) wfl_96 sameF_rfl (fun v1 => ?_)
  refine I_if_le 21 7 dX3_beginsAfter_4 rfl rfl (fun _ => ?_) (fun _ => ?_)
  · refine I_sub [] [] rfl ?_
    exact I_X3_beginsAfter_b21 hst
  · refine I_aload_n 0 8 dX3_beginsAfter_7 rfl rfl rfl ?_
    refine I_getA 11 dX3_beginsAfter_8 rfl cl4 (by decide) wfl_94 sameF_rfl (fun v8 => ?_)
    refine I_iconst (0 : Int32) 12 dX3_beginsAfter_11 rfl (by decide) ?_
    refine I_iald 13 dX3_beginsAfter_12 rfl (fun v12 => ?_)
    refine I_iload_n 1 14 dX3_beginsAfter_13 rfl rfl rfl ?_
    refine I_icmp_le 21 17 dX3_beginsAfter_14 rfl rfl (fun _ => ?_) (fun _ => ?_)
    · refine I_sub [] [] rfl ?_
      exact I_X3_beginsAfter_b21 hst
    · refine I_iconst (1 : Int32) 18 dX3_beginsAfter_17 rfl (by decide) ?_
      refine I_goto 22 dX3_beginsAfter_18 rfl ?_
      refine I_sub [] [] rfl ?_
      exact I_X3_beginsAfter_b22 hst (1 : Int32)
theorem C_X3_beginsAfter {l : Launch} {g : GX} (hst : l.stackTraces = false) (x0 : Nat) (x1 : Int32) : Cs l g M_X3_beginsAfter cvI [.ref x0, .int x1] (f_X3_beginsAfter (gt0 g) (gmi g) x0 x1) :=
  Cs_of_I [(0, .ref x0), (1, .int x1)] rfl (by decide) hst (Nat.le_of_ble_eq_true rfl) rfl (I_X3_beginsAfter hst x0 x1)
/-! LunchMarks$Trip.firstLegOn(I)I -/
abbrev M_X4_firstLegOn : MS := (yX4_firstLegOn, cX4_firstLegOn, 3, (some .int), [], 1, 22)
theorem pd_X4_firstLegOn : (parseMethodDescriptor (mY M_X4_firstLegOn).desc).map (fun d => d.parameters.length) = some 1 := by decide +kernel
def X4_firstLegOn_L2 (t0 mi : Nat) (x0 : Nat) (x1 : Int32) (kx : Mo Int32) : Nat → Int32 → Mo Int32
  | 0, _ => flr
  | n + 1, x2 =>
    bnd (gI x0 5 7) fun v4 =>
    (if v4 ≤ x2 then
    kx
    else
    bnd (vc x0 5 (f_X4_legNumber t0 mi x0 x2 (0 : Int32))) fun v13 =>
    (if v13 = x1 then
    rt x2
    else
    (X4_firstLegOn_L2 t0 mi x0 x1 kx n) (x2 + 1)))
set_option maxRecDepth 20000 in
theorem I_X4_firstLegOn_L2 {l : Launch} {g : GX} (hst : l.stackTraces = false) (x0 : Nat) (x1 : Int32) (kx : Mo Int32) (hkx : I l g M_X4_firstLegOn cvI 28 [] [] kx) : ∀ (n : Nat) (x2 : Int32), I l g M_X4_firstLegOn cvI 2 [(0, .ref x0), (1, .int x1), (2, .int x2)] [] (X4_firstLegOn_L2 (gt0 g) (gmi g) x0 x1 kx n x2) := by
  intro n
  induction n with
  | zero => intro x2; rw [X4_firstLegOn_L2]; exact I_flr
  | succ n ih =>
    intro x2; rw [X4_firstLegOn_L2]
    refine I_iload_n 2 3 dX4_firstLegOn_2 rfl rfl rfl ?_
    refine I_aload_n 0 4 dX4_firstLegOn_3 rfl rfl rfl ?_
    refine I_getI 7 dX4_firstLegOn_4 rfl cl5 (by decide) wfl_219 sameF_rfl (fun v4 => ?_)
    refine I_icmp_ge 28 10 dX4_firstLegOn_7 rfl rfl (fun _ => ?_) (fun _ => ?_)
    · refine I_sub [] [] rfl ?_
      exact hkx
    · refine I_aload_n 0 11 dX4_firstLegOn_10 rfl rfl rfl ?_
      refine I_iload_n 2 12 dX4_firstLegOn_11 rfl rfl rfl ?_
      refine I_iconst (0 : Int32) 13 dX4_firstLegOn_12 rfl (by decide) ?_
      refine I_callVi (As := [.int x2, .int (0 : Int32)]) (rest := []) 16 (C_X4_legNumber hst x0 x2 (0 : Int32)) dX4_firstLegOn_13 rfl cl5 rfl (by decide) (Nat.le_of_ble_eq_true rfl) wcd_290 win_233 wml_410 wim_292 wse_293 ⟨by decide, by decide, pd_X4_legNumber⟩ (fun x hx => by cases hx) (fun v13 => ?_)
      refine I_iload_n 1 17 dX4_firstLegOn_16 rfl rfl rfl ?_
      refine I_icmp_ne 22 20 dX4_firstLegOn_17 rfl rfl (fun _ => ?_) (fun _ => ?_)
      · refine I_iload_n 2 21 dX4_firstLegOn_20 rfl rfl rfl ?_
        exact I_iret dX4_firstLegOn_21 rfl
      · refine I_iinc 25 (x2 + 1) [(2, .int (x2 + 1)), (0, .ref x0), (1, .int x1)] 2 dX4_firstLegOn_22 rfl rfl rfl (by decide) rfl ?_
        refine I_goto 2 dX4_firstLegOn_25 rfl ?_
        refine I_sub [(0, .ref x0), (1, .int x1), (2, .int (x2 + 1))] [1, 2, 0] rfl ?_
        exact ih (x2 + 1)
def f_X4_firstLegOn (t0 mi : Nat) (x0 : Nat) (x1 : Int32) : Mo Int32 :=
    X4_firstLegOn_L2 t0 mi x0 x1 (rt (-1 : Int32)) FU (0 : Int32)
set_option maxRecDepth 20000 in
theorem I_X4_firstLegOn {l : Launch} {g : GX} (hst : l.stackTraces = false) (x0 : Nat) (x1 : Int32) : I l g M_X4_firstLegOn cvI 0 [(0, .ref x0), (1, .int x1)] [] (f_X4_firstLegOn (gt0 g) (gmi g) x0 x1) := by
  unfold f_X4_firstLegOn
  refine I_iconst (0 : Int32) 1 dX4_firstLegOn_0 rfl (by decide) ?_
  refine I_istore_n 2 [(2, .int (0 : Int32)), (0, .ref x0), (1, .int x1)] dX4_firstLegOn_1 rfl rfl (by decide) rfl ?_
  refine I_sub [(0, .ref x0), (1, .int x1), (2, .int (0 : Int32))] [1, 2, 0] rfl ?_
  refine I_X4_firstLegOn_L2 hst x0 x1 _ ?_ FU (0 : Int32)
  refine I_iconst (-1 : Int32) 29 dX4_firstLegOn_28 rfl (by decide) ?_
  exact I_iret dX4_firstLegOn_29 rfl
theorem C_X4_firstLegOn {l : Launch} {g : GX} (hst : l.stackTraces = false) (x0 : Nat) (x1 : Int32) : Cs l g M_X4_firstLegOn cvI [.ref x0, .int x1] (f_X4_firstLegOn (gt0 g) (gmi g) x0 x1) :=
  Cs_of_I [(0, .ref x0), (1, .int x1)] rfl (by decide) hst (Nat.le_of_ble_eq_true rfl) rfl (I_X4_firstLegOn hst x0 x1)
/-! LunchMarks$Trip.standAt(II)V -/
abbrev M_X4_standAt : MS := (yX4_standAt, cX4_standAt, 3, none, [], 0, 0)
theorem pd_X4_standAt : (parseMethodDescriptor (mY M_X4_standAt).desc).map (fun d => d.parameters.length) = some 2 := by decide +kernel
def f_X4_standAt (t0 mi : Nat) (x0 : Nat) (x1 : Int32) (x2 : Int32) : Mo Unit :=
    bnd (pV x0 5 9 (.int (-1 : Int32))) fun _ =>
    bnd (pV x0 5 10 (.int x1)) fun _ =>
    bnd (pV x0 5 11 (.int x2)) fun _ =>
    rt ()
set_option maxRecDepth 20000 in
theorem I_X4_standAt {l : Launch} {g : GX} (hst : l.stackTraces = false) (x0 : Nat) (x1 : Int32) (x2 : Int32) : I l g M_X4_standAt cvU 0 [(0, .ref x0), (1, .int x1), (2, .int x2)] [] (f_X4_standAt (gt0 g) (gmi g) x0 x1 x2) := by
  unfold f_X4_standAt
  refine I_aload_n 0 1 dX4_standAt_0 rfl rfl rfl ?_
  refine I_iconst (-1 : Int32) 2 dX4_standAt_1 rfl (by decide) ?_
  refine I_put 5 dX4_standAt_2 rfl cl5 (by decide) wfl_221 sameF_rfl rfl rfl rfl ?_
  refine I_aload_n 0 6 dX4_standAt_5 rfl rfl rfl ?_
  refine I_iload_n 1 7 dX4_standAt_6 rfl rfl rfl ?_
  refine I_put 10 dX4_standAt_7 rfl cl5 (by decide) wfl_222 sameF_rfl rfl rfl rfl ?_
  refine I_aload_n 0 11 dX4_standAt_10 rfl rfl rfl ?_
  refine I_iload_n 2 12 dX4_standAt_11 rfl rfl rfl ?_
  refine I_put 15 dX4_standAt_12 rfl cl5 (by decide) wfl_223 sameF_rfl rfl rfl rfl ?_
  exact I_vret dX4_standAt_15 rfl
theorem C_X4_standAt {l : Launch} {g : GX} (hst : l.stackTraces = false) (x0 : Nat) (x1 : Int32) (x2 : Int32) : Cs l g M_X4_standAt cvU [.ref x0, .int x1, .int x2] (f_X4_standAt (gt0 g) (gmi g) x0 x1 x2) :=
  Cs_of_I [(0, .ref x0), (1, .int x1), (2, .int x2)] rfl (by decide) hst (Nat.le_of_ble_eq_true rfl) rfl (I_X4_standAt hst x0 x1 x2)
/-! LunchMarks$Network.giveUp(LLunchMarks$Trip;II)V -/
abbrev M_X2_giveUp : MS := (yX2_giveUp, cX2_giveUp, 6, none, [], 3, 64)
theorem pd_X2_giveUp : (parseMethodDescriptor (mY M_X2_giveUp).desc).map (fun d => d.parameters.length) = some 3 := by decide +kernel
def X2_giveUp_L3 (t0 mi : Nat) (x0 : Nat) (x1 : Nat) (x2 : Int32) (x3 : Int32) (kx : Mo Unit) : Nat → Int32 → Mo Unit
  | 0, _ => flr
  | n + 1, x4 =>
    bnd (gI x1 5 7) fun v6 =>
    (if v6 ≤ x4 then
    kx
    else
    bnd (gA' x0 3 2) fun v13 =>
    bnd (vc x1 5 (f_X4_legNumber t0 mi x1 x4 (0 : Int32))) fun v20 =>
    bnd (vc v13 0 (f_Jx4a65c_get_915e3 t0 mi v13 v20)) fun v23 =>
    bnd (isC v23 4) fun _ =>
    bnd (vc x1 5 (f_X4_legNumber t0 mi x1 x4 (1 : Int32))) fun v37 =>
    bnd (vc x1 5 (f_X4_legNumber t0 mi x1 x4 (2 : Int32))) fun v44 =>
    bnd (vc v23 4 (f_X3_changeLoads t0 mi v23 v37 v44 (-1 : Int32))) fun _ =>
    (X2_giveUp_L3 t0 mi x0 x1 x2 x3 kx n) (x4 + 1))
set_option maxRecDepth 20000 in
theorem I_X2_giveUp_L3 {l : Launch} {g : GX} (hst : l.stackTraces = false) (x0 : Nat) (x1 : Nat) (x2 : Int32) (x3 : Int32) (kx : Mo Unit) (hkx : I l g M_X2_giveUp cvU 57 [(0, .ref x0), (1, .ref x1), (2, .int x2), (3, .int x3)] [] kx) : ∀ (n : Nat) (x4 : Int32), I l g M_X2_giveUp cvU 3 [(0, .ref x0), (1, .ref x1), (2, .int x2), (3, .int x3), (4, .int x4)] [] (X2_giveUp_L3 (gt0 g) (gmi g) x0 x1 x2 x3 kx n x4) := by
  intro n
  induction n with
  | zero => intro x4; rw [X2_giveUp_L3]; exact I_flr
  | succ n ih =>
    intro x4; rw [X2_giveUp_L3]
    refine I_iload 4 5 dX2_giveUp_3 rfl rfl ?_
    refine I_aload_n 1 6 dX2_giveUp_5 rfl rfl rfl ?_
    refine I_getI 9 dX2_giveUp_6 rfl cl5 (by decide) wfl_289 sameF_rfl (fun v6 => ?_)
    refine I_icmp_ge 57 12 dX2_giveUp_9 rfl rfl (fun _ => ?_) (fun _ => ?_)
    · refine I_sub [(0, .ref x0), (1, .ref x1), (2, .int x2), (3, .int x3)] [0, 1, 2, 3] rfl ?_
      exact hkx
    · refine I_aload_n 0 13 dX2_giveUp_12 rfl rfl rfl ?_
      refine I_getA 16 dX2_giveUp_13 rfl cl3 (by decide) wfl_24 sameF_rfl (fun v13 => ?_)
      refine I_aload_n 1 17 dX2_giveUp_16 rfl rfl rfl ?_
      refine I_iload 4 19 dX2_giveUp_17 rfl rfl ?_
      refine I_iconst (0 : Int32) 20 dX2_giveUp_19 rfl (by decide) ?_
      refine I_callVi (As := [.int x4, .int (0 : Int32)]) (rest := [.ref v13]) 23 (C_X4_legNumber hst x1 x4 (0 : Int32)) dX2_giveUp_20 rfl cl5 rfl (by decide) (Nat.le_of_ble_eq_true rfl) wcd_290 win_233 wml_291 wim_292 wse_293 ⟨by decide, by decide, pd_X4_legNumber⟩ (fun x hx => by cases hx) (fun v20 => ?_)
      refine I_callVa (As := [.int v20]) (rest := []) 26 (C_Jx4a65c_get_915e3 hst v13 v20) dX2_giveUp_23 rfl cl0 rfl (by decide) (Nat.le_of_ble_eq_true rfl) wcd_166 win_20 wml_258 wim_168 wse_169 ⟨by decide, by decide, pd_Jx4a65c_get_915e3⟩ (fun x hx => by cases hx) (fun v23 => ?_)
      refine I_cast 29 dX2_giveUp_26 rfl cl4 wcl_135 ?_
      refine I_astore 31 [(5, .ref v23), (0, .ref x0), (1, .ref x1), (2, .int x2), (3, .int x3), (4, .int x4)] dX2_giveUp_29 rfl (by decide) rfl ?_
      refine I_aload 0 33 dX2_giveUp_31 rfl rfl ?_
      refine I_aload_n 2 34 dX2_giveUp_33 rfl rfl rfl ?_
      refine I_iload 5 36 dX2_giveUp_34 rfl rfl ?_
      refine I_iconst (1 : Int32) 37 dX2_giveUp_36 rfl (by decide) ?_
      refine I_callVi (As := [.int x4, .int (1 : Int32)]) (rest := [.ref v23]) 40 (C_X4_legNumber hst x1 x4 (1 : Int32)) dX2_giveUp_37 rfl cl5 rfl (by decide) (Nat.le_of_ble_eq_true rfl) wcd_290 win_233 wml_291 wim_292 wse_293 ⟨by decide, by decide, pd_X4_legNumber⟩ (fun x hx => by cases hx) (fun v37 => ?_)
      refine I_aload_n 2 41 dX2_giveUp_40 rfl rfl rfl ?_
      refine I_iload 5 43 dX2_giveUp_41 rfl rfl ?_
      refine I_iconst (2 : Int32) 44 dX2_giveUp_43 rfl (by decide) ?_
      refine I_callVi (As := [.int x4, .int (2 : Int32)]) (rest := [.int v37, .ref v23]) 47 (C_X4_legNumber hst x1 x4 (2 : Int32)) dX2_giveUp_44 rfl cl5 rfl (by decide) (Nat.le_of_ble_eq_true rfl) wcd_290 win_233 wml_291 wim_292 wse_293 ⟨by decide, by decide, pd_X4_legNumber⟩ (fun x hx => by cases hx) (fun v44 => ?_)
      refine I_iconst (-1 : Int32) 48 dX2_giveUp_47 rfl (by decide) ?_
      refine I_callVv (As := [.int v37, .int v44, .int (-1 : Int32)]) (rest := []) 51 (C_X3_changeLoads hst v23 v37 v44 (-1 : Int32)) dX2_giveUp_48 rfl cl4 rfl (by decide) (Nat.le_of_ble_eq_true rfl) wcd_277 win_137 wml_278 wim_279 wse_280 ⟨by decide, by decide, pd_X3_changeLoads⟩ (fun x hx => by cases hx) (fun _ => ?_)
      refine I_iinc 54 (x4 + 1) [(4, .int (x4 + 1)), (5, .ref v23), (0, .ref x0), (1, .ref x1), (2, .int x2), (3, .int x3)] 5 dX2_giveUp_51 rfl rfl rfl (by decide) rfl ?_
      refine I_goto 3 dX2_giveUp_54 rfl ?_
      refine I_sub [(0, .ref x0), (1, .ref x1), (2, .int x2), (3, .int x3), (4, .int (x4 + 1))] [2, 3, 4, 5, 0] rfl ?_
      exact ih (x4 + 1)
def f_X2_giveUp (t0 mi : Nat) (x0 : Nat) (x1 : Nat) (x2 : Int32) (x3 : Int32) : Mo Unit :=
    X2_giveUp_L3 t0 mi x0 x1 x2 x3 (bnd (pV x1 5 7 (.int x2)) fun _ =>
    (if x2 = 0 then
    bnd (gI x1 5 0) fun v68 =>
    bnd (vc x0 3 (f_X2_beginning t0 mi x0 x1)) fun v73 =>
    bnd (vc x1 5 (f_X4_standAt t0 mi x1 v68 (mx v73 x3))) fun _ =>
    rt ()
    else
    bnd (gA' x0 3 2) fun v85 =>
    bnd (vc x1 5 (f_X4_legNumber t0 mi x1 (x2 - (1 : Int32)) (0 : Int32))) fun v93 =>
    bnd (vc v85 0 (f_Jx4a65c_get_915e3 t0 mi v85 v93)) fun v96 =>
    bnd (isC v96 4) fun _ =>
    bnd (vc x1 5 (f_X4_legNumber t0 mi x1 (x2 - (1 : Int32)) (2 : Int32))) fun v109 =>
    bnd (gA' v96 4 1) fun v117 =>
    bnd (ldK 0 v117 v109) fun v122 =>
    bnd (vc x0 3 (f_X2_sortedAt t0 mi x0 v96 v109)) fun v128 =>
    bnd (vc x1 5 (f_X4_standAt t0 mi x1 v122 (mx v128 x3))) fun _ =>
    rt ())) FU x2
set_option maxRecDepth 20000 in
theorem I_X2_giveUp {l : Launch} {g : GX} (hst : l.stackTraces = false) (x0 : Nat) (x1 : Nat) (x2 : Int32) (x3 : Int32) : I l g M_X2_giveUp cvU 0 [(0, .ref x0), (1, .ref x1), (2, .int x2), (3, .int x3)] [] (f_X2_giveUp (gt0 g) (gmi g) x0 x1 x2 x3) := by
  unfold f_X2_giveUp
  refine I_iload_n 2 1 dX2_giveUp_0 rfl rfl rfl ?_
  refine I_istore 3 [(4, .int x2), (0, .ref x0), (1, .ref x1), (2, .int x2), (3, .int x3)] dX2_giveUp_1 rfl (by decide) rfl ?_
  refine I_sub [(0, .ref x0), (1, .ref x1), (2, .int x2), (3, .int x3), (4, .int x2)] [1, 2, 3, 4, 0] rfl ?_
  refine I_X2_giveUp_L3 hst x0 x1 x2 x3 _ ?_ FU x2
  refine I_aload_n 1 58 dX2_giveUp_57 rfl rfl rfl ?_
  refine I_iload_n 2 59 dX2_giveUp_58 rfl rfl rfl ?_
  refine I_put 62 dX2_giveUp_59 rfl cl5 (by decide) wfl_289 sameF_rfl rfl rfl rfl ?_
  refine I_iload_n 2 63 dX2_giveUp_62 rfl rfl rfl ?_
  refine I_if_ne 84 66 dX2_giveUp_63 rfl rfl (fun _ => ?_) (fun _ => ?_)
  · refine I_aload_n 1 67 dX2_giveUp_66 rfl rfl rfl ?_
    refine I_aload_n 1 68 dX2_giveUp_67 rfl rfl rfl ?_
    refine I_getI 71 dX2_giveUp_68 rfl cl5 (by decide) wfl_313 sameF_rfl (fun v68 => ?_)
    refine I_aload_n 0 72 dX2_giveUp_71 rfl rfl rfl ?_
    refine I_aload_n 1 73 dX2_giveUp_72 rfl rfl rfl ?_
    refine I_callVi (As := [.ref x1]) (rest := [.int v68, .ref x1]) 76 (C_X2_beginning hst x0 x1) dX2_giveUp_73 rfl cl3 rfl (by decide) (Nat.le_of_ble_eq_true rfl) wcd_321 win_34 wml_411 wim_323 wse_324 ⟨by decide, by decide, pd_X2_beginning⟩ (fun x hx => by cases hx) (fun v73 => ?_)
    refine I_iload_n 3 77 dX2_giveUp_76 rfl rfl rfl ?_
    refine I_mmax 80 dX2_giveUp_77 rfl wml_268 (by decide) (Nat.le_of_ble_eq_true rfl) ?_
    refine I_callVv (As := [.int v68, .int (mx v73 x3)]) (rest := []) 83 (C_X4_standAt hst x1 v68 (mx v73 x3)) dX2_giveUp_80 rfl cl5 rfl (by decide) (Nat.le_of_ble_eq_true rfl) wcd_412 win_233 wml_413 wim_414 wse_415 ⟨by decide, by decide, pd_X4_standAt⟩ (fun x hx => by cases hx) (fun _ => ?_)
    exact I_vret dX2_giveUp_83 rfl
  · refine I_aload_n 0 85 dX2_giveUp_84 rfl rfl rfl ?_
    refine I_getA 88 dX2_giveUp_85 rfl cl3 (by decide) wfl_24 sameF_rfl (fun v85 => ?_)
    refine I_aload_n 1 89 dX2_giveUp_88 rfl rfl rfl ?_
    refine I_iload_n 2 90 dX2_giveUp_89 rfl rfl rfl ?_
    refine I_iconst (1 : Int32) 91 dX2_giveUp_90 rfl (by decide) ?_
    refine I_isub 92 dX2_giveUp_91 rfl ?_
    refine I_iconst (0 : Int32) 93 dX2_giveUp_92 rfl (by decide) ?_
    refine I_callVi (As := [.int (x2 - (1 : Int32)), .int (0 : Int32)]) (rest := [.ref v85]) 96 (C_X4_legNumber hst x1 (x2 - (1 : Int32)) (0 : Int32)) dX2_giveUp_93 rfl cl5 rfl (by decide) (Nat.le_of_ble_eq_true rfl) wcd_290 win_233 wml_291 wim_292 wse_293 ⟨by decide, by decide, pd_X4_legNumber⟩ (fun x hx => by cases hx) (fun v93 => ?_)
    refine I_callVa (As := [.int v93]) (rest := []) 99 (C_Jx4a65c_get_915e3 hst v85 v93) dX2_giveUp_96 rfl cl0 rfl (by decide) (Nat.le_of_ble_eq_true rfl) wcd_166 win_20 wml_258 wim_168 wse_169 ⟨by decide, by decide, pd_Jx4a65c_get_915e3⟩ (fun x hx => by cases hx) (fun v96 => ?_)
    refine I_cast 102 dX2_giveUp_99 rfl cl4 wcl_135 ?_
    refine I_astore 104 [(4, .ref v96), (0, .ref x0), (1, .ref x1), (2, .int x2), (3, .int x3)] dX2_giveUp_102 rfl (by decide) rfl ?_
    refine I_aload_n 2 105 dX2_giveUp_104 rfl rfl rfl ?_
    refine I_iload_n 3 106 dX2_giveUp_105 rfl rfl rfl ?_
    refine I_iconst (1 : Int32) 107 dX2_giveUp_106 rfl (by decide) ?_
    refine I_isub 108 dX2_giveUp_107 rfl ?_
    refine I_iconst (2 : Int32) 109 dX2_giveUp_108 rfl (by decide) ?_
    refine I_callVi (As := [.int (x2 - (1 : Int32)), .int (2 : Int32)]) (rest := []) 112 (C_X4_legNumber hst x1 (x2 - (1 : Int32)) (2 : Int32)) dX2_giveUp_109 rfl cl5 rfl (by decide) (Nat.le_of_ble_eq_true rfl) wcd_290 win_233 wml_291 wim_292 wse_293 ⟨by decide, by decide, pd_X4_legNumber⟩ (fun x hx => by cases hx) (fun v109 => ?_)
    refine I_istore 114 [(5, .int v109), (4, .ref v96), (0, .ref x0), (1, .ref x1), (2, .int x2), (3, .int x3)] dX2_giveUp_112 rfl (by decide) rfl ?_
    refine I_aload_n 3 115 dX2_giveUp_114 rfl rfl rfl ?_
    refine I_aload 1 117 dX2_giveUp_115 rfl rfl ?_
    refine I_getA 120 dX2_giveUp_117 rfl cl4 (by decide) wfl_243 sameF_rfl (fun v117 => ?_)
    refine I_iload 0 122 dX2_giveUp_120 rfl rfl ?_
    refine I_iald 123 dX2_giveUp_122 rfl (fun v122 => ?_)
    refine I_aload_n 2 124 dX2_giveUp_123 rfl rfl rfl ?_
    refine I_aload 1 126 dX2_giveUp_124 rfl rfl ?_
    refine I_iload 0 128 dX2_giveUp_126 rfl rfl ?_
    refine I_callVi (As := [.ref v96, .int v109]) (rest := [.int v122, .ref x1]) 131 (C_X2_sortedAt hst x0 v96 v109) dX2_giveUp_128 rfl cl3 rfl (by decide) (Nat.le_of_ble_eq_true rfl) wcd_249 win_34 wml_250 wim_251 wse_252 ⟨by decide, by decide, pd_X2_sortedAt⟩ (fun x hx => by cases hx) (fun v128 => ?_)
    refine I_iload_n 5 132 dX2_giveUp_131 rfl rfl rfl ?_
    refine I_mmax 135 dX2_giveUp_132 rfl wml_268 (by decide) (Nat.le_of_ble_eq_true rfl) ?_
    refine I_callVv (As := [.int v122, .int (mx v128 x3)]) (rest := []) 138 (C_X4_standAt hst x1 v122 (mx v128 x3)) dX2_giveUp_135 rfl cl5 rfl (by decide) (Nat.le_of_ble_eq_true rfl) wcd_412 win_233 wml_413 wim_414 wse_415 ⟨by decide, by decide, pd_X4_standAt⟩ (fun x hx => by cases hx) (fun _ => ?_)
    exact I_vret dX2_giveUp_138 rfl
theorem C_X2_giveUp {l : Launch} {g : GX} (hst : l.stackTraces = false) (x0 : Nat) (x1 : Nat) (x2 : Int32) (x3 : Int32) : Cs l g M_X2_giveUp cvU [.ref x0, .ref x1, .int x2, .int x3] (f_X2_giveUp (gt0 g) (gmi g) x0 x1 x2 x3) :=
  Cs_of_I [(0, .ref x0), (1, .ref x1), (2, .int x2), (3, .int x3)] rfl (by decide) hst (Nat.le_of_ble_eq_true rfl) rfl (I_X2_giveUp hst x0 x1 x2 x3)
/-! LunchMarks.takeOffAll(I)I -/
abbrev M_X5_takeOffAll : MS := (yX5_takeOffAll, cX5_takeOffAll, 6, (some .int), [], 4, 89)
theorem pd_X5_takeOffAll : (parseMethodDescriptor (mY M_X5_takeOffAll).desc).map (fun d => d.parameters.length) = some 1 := by decide +kernel
def X5_takeOffAll_b81 (t0 mi : Nat) (kh4 : Int32 → Int32 → Mo Int32) (x0 : Nat) (x1 : Int32) (x2 : Int32) (x3 : Int32) : Mo Int32 :=
    kh4 x2 (x3 + 1)
set_option maxRecDepth 20000 in
theorem I_X5_takeOffAll_b81 {l : Launch} {g : GX} (hst : l.stackTraces = false) (x0 : Nat) (x1 : Int32) (x2 : Int32) (x3 : Int32) (kh4 : Int32 → Int32 → Mo Int32) (hkh4 : ∀ (z2 : Int32) (z3 : Int32), I l g M_X5_takeOffAll cvI 4 [(0, .ref x0), (1, .int x1), (2, .int z2), (3, .int z3)] [] (kh4 z2 z3)) : I l g M_X5_takeOffAll cvI 81 [(0, .ref x0), (1, .int x1), (2, .int x2), (3, .int x3)] [] (X5_takeOffAll_b81 (gt0 g) (gmi g) kh4 x0 x1 x2 x3) := by
  unfold X5_takeOffAll_b81
  refine I_iinc 84 (x3 + 1) [(3, .int (x3 + 1)), (0, .ref x0), (1, .int x1), (2, .int x2)] 3 dX5_takeOffAll_81 rfl rfl rfl (by decide) rfl ?_
  refine I_goto 4 dX5_takeOffAll_84 rfl ?_
  refine I_sub [(0, .ref x0), (1, .int x1), (2, .int x2), (3, .int (x3 + 1))] [1, 2, 3, 0] rfl ?_
  exact hkh4 x2 (x3 + 1)
def X5_takeOffAll_b52 (t0 mi : Nat) (kh4 : Int32 → Int32 → Mo Int32) (x0 : Nat) (x1 : Int32) (x2 : Int32) (x3 : Int32) (x4 : Nat) (x5 : Int32) (s0 : Int32) (s1 : Nat) : Mo Int32 :=
    bnd (pZ s1 5 12 s0) fun _ =>
    bnd (gI x4 5 12) fun v57 =>
    (if v57 = 0 then
    X5_takeOffAll_b81 t0 mi kh4 x0 x1 x2 x3
    else
    bnd (gA' x0 6 0) fun v64 =>
    bnd (gI x0 6 4) fun v72 =>
    bnd (vc v64 3 (f_X2_giveUp t0 mi v64 x4 x5 v72)) fun _ =>
    X5_takeOffAll_b81 t0 mi kh4 x0 x1 (x2 + 1) x3)
set_option maxRecDepth 20000 in
theorem I_X5_takeOffAll_b52 {l : Launch} {g : GX} (hst : l.stackTraces = false) (x0 : Nat) (x1 : Int32) (x2 : Int32) (x3 : Int32) (x4 : Nat) (x5 : Int32) (s0 : Int32) (s1 : Nat) (kh4 : Int32 → Int32 → Mo Int32) (hkh4 : ∀ (z2 : Int32) (z3 : Int32), I l g M_X5_takeOffAll cvI 4 [(0, .ref x0), (1, .int x1), (2, .int z2), (3, .int z3)] [] (kh4 z2 z3)) : I l g M_X5_takeOffAll cvI 52 [(0, .ref x0), (1, .int x1), (2, .int x2), (3, .int x3), (4, .ref x4), (5, .int x5)] [.int s0, .ref s1] (X5_takeOffAll_b52 (gt0 g) (gmi g) kh4 x0 x1 x2 x3 x4 x5 s0 s1) := by
  unfold X5_takeOffAll_b52
  refine I_putZ 55 dX5_takeOffAll_52 rfl cl5 (by decide) wfl_420 sameF_rfl rfl rfl ?_
  refine I_aload 4 57 dX5_takeOffAll_55 rfl rfl ?_
  refine I_getI 60 dX5_takeOffAll_57 rfl cl5 (by decide) wfl_420 sameF_rfl (fun v57 => ?_)
  refine I_if_eq 81 63 dX5_takeOffAll_60 rfl rfl (fun _ => ?_) (fun _ => ?_)
  · refine I_sub [(0, .ref x0), (1, .int x1), (2, .int x2), (3, .int x3)] [0, 1, 2, 3] rfl ?_
    exact I_X5_takeOffAll_b81 hst x0 x1 x2 x3 _ hkh4
  · refine I_aload_n 0 64 dX5_takeOffAll_63 rfl rfl rfl ?_
    refine I_getA 67 dX5_takeOffAll_64 rfl cl6 (by decide) wfl_38 sameF_rfl (fun v64 => ?_)
    refine I_aload 4 69 dX5_takeOffAll_67 rfl rfl ?_
    refine I_iload 5 71 dX5_takeOffAll_69 rfl rfl ?_
    refine I_aload_n 0 72 dX5_takeOffAll_71 rfl rfl rfl ?_
    refine I_getI 75 dX5_takeOffAll_72 rfl cl6 (by decide) wfl_50 sameF_rfl (fun v72 => ?_)
    refine I_callVv (As := [.ref x4, .int x5, .int v72]) (rest := []) 78 (C_X2_giveUp hst v64 x4 x5 v72) dX5_takeOffAll_75 rfl cl3 rfl (by decide) (Nat.le_of_ble_eq_true rfl) wcd_421 win_34 wml_422 wim_423 wse_424 ⟨by decide, by decide, pd_X2_giveUp⟩ (fun x hx => by cases hx) (fun _ => ?_)
    refine I_iinc 81 (x2 + 1) [(2, .int (x2 + 1)), (0, .ref x0), (1, .int x1), (3, .int x3), (4, .ref x4), (5, .int x5)] 2 dX5_takeOffAll_78 rfl rfl rfl (by decide) rfl ?_
    refine I_sub [(0, .ref x0), (1, .int x1), (2, .int (x2 + 1)), (3, .int x3)] [1, 2, 0, 3] rfl ?_
    exact I_X5_takeOffAll_b81 hst x0 x1 (x2 + 1) x3 _ hkh4
def X5_takeOffAll_L4 (t0 mi : Nat) (x0 : Nat) (x1 : Int32) (kx : Int32 → Mo Int32) : Nat → Int32 → Int32 → Mo Int32
  | 0, _, _ => flr
  | n + 1, x2, x3 =>
    bnd (gA' x0 6 1) fun v6 =>
    bnd (vc v6 0 (f_Jx4a65c_size_8abf5 t0 mi v6)) fun v9 =>
    (if v9 ≤ x3 then
    kx x2
    else
    bnd (gA' x0 6 1) fun v16 =>
    bnd (vc v16 0 (f_Jx4a65c_get_915e3 t0 mi v16 x3)) fun v20 =>
    bnd (isC v20 1) fun _ =>
    bnd (vc v20 1 (f_X0_current t0 mi v20)) fun v26 =>
    bnd (vc v26 5 (f_X4_firstLegOn t0 mi v26 x1)) fun v34 =>
    (if v34 = (-1 : Int32) then
    X5_takeOffAll_b52 t0 mi (X5_takeOffAll_L4 t0 mi x0 x1 kx n) x0 x1 x2 x3 v26 v34 (0 : Int32) v26
    else
    X5_takeOffAll_b52 t0 mi (X5_takeOffAll_L4 t0 mi x0 x1 kx n) x0 x1 x2 x3 v26 v34 (1 : Int32) v26))
set_option maxRecDepth 20000 in
theorem I_X5_takeOffAll_L4 {l : Launch} {g : GX} (hst : l.stackTraces = false) (x0 : Nat) (x1 : Int32) (kx : Int32 → Mo Int32) (hkx : ∀ (z2 : Int32), I l g M_X5_takeOffAll cvI 87 [(2, .int z2)] [] (kx z2)) : ∀ (n : Nat) (x2 : Int32) (x3 : Int32), I l g M_X5_takeOffAll cvI 4 [(0, .ref x0), (1, .int x1), (2, .int x2), (3, .int x3)] [] (X5_takeOffAll_L4 (gt0 g) (gmi g) x0 x1 kx n x2 x3) := by
  intro n
  induction n with
  | zero => intro x2 x3; rw [X5_takeOffAll_L4]; exact I_flr
  | succ n ih =>
    intro x2 x3; rw [X5_takeOffAll_L4]
    refine I_iload_n 3 5 dX5_takeOffAll_4 rfl rfl rfl ?_
    refine I_aload_n 0 6 dX5_takeOffAll_5 rfl rfl rfl ?_
    refine I_getA 9 dX5_takeOffAll_6 rfl cl6 (by decide) wfl_41 sameF_rfl (fun v6 => ?_)
    refine I_callVi (As := []) (rest := [.int x3]) 12 (C_Jx4a65c_size_8abf5 hst v6) dX5_takeOffAll_9 rfl cl0 rfl (by decide) (Nat.le_of_ble_eq_true rfl) wcd_131 win_20 wml_165 wim_133 wse_134 ⟨by decide, by decide, pd_Jx4a65c_size_8abf5⟩ (fun x hx => by cases hx) (fun v9 => ?_)
    refine I_icmp_ge 87 15 dX5_takeOffAll_12 rfl rfl (fun _ => ?_) (fun _ => ?_)
    · refine I_sub [(2, .int x2)] [2] rfl ?_
      exact hkx x2
    · refine I_aload_n 0 16 dX5_takeOffAll_15 rfl rfl rfl ?_
      refine I_getA 19 dX5_takeOffAll_16 rfl cl6 (by decide) wfl_41 sameF_rfl (fun v16 => ?_)
      refine I_iload_n 3 20 dX5_takeOffAll_19 rfl rfl rfl ?_
      refine I_callVa (As := [.int x3]) (rest := []) 23 (C_Jx4a65c_get_915e3 hst v16 x3) dX5_takeOffAll_20 rfl cl0 rfl (by decide) (Nat.le_of_ble_eq_true rfl) wcd_166 win_20 wml_167 wim_168 wse_169 ⟨by decide, by decide, pd_Jx4a65c_get_915e3⟩ (fun x hx => by cases hx) (fun v20 => ?_)
      refine I_cast 26 dX5_takeOffAll_23 rfl cl1 wcl_228 ?_
      refine I_callVa (As := []) (rest := []) 29 (C_X0_current hst v20) dX5_takeOffAll_26 rfl cl1 rfl (by decide) (Nat.le_of_ble_eq_true rfl) wcd_332 win_230 wml_333 wim_334 wse_335 ⟨by decide, by decide, pd_X0_current⟩ (fun x hx => by cases hx) (fun v26 => ?_)
      refine I_astore 31 [(4, .ref v26), (0, .ref x0), (1, .int x1), (2, .int x2), (3, .int x3)] dX5_takeOffAll_29 rfl (by decide) rfl ?_
      refine I_aload 0 33 dX5_takeOffAll_31 rfl rfl ?_
      refine I_iload_n 2 34 dX5_takeOffAll_33 rfl rfl rfl ?_
      refine I_callVi (As := [.int x1]) (rest := []) 37 (C_X4_firstLegOn hst v26 x1) dX5_takeOffAll_34 rfl cl5 rfl (by decide) (Nat.le_of_ble_eq_true rfl) wcd_416 win_233 wml_417 wim_418 wse_419 ⟨by decide, by decide, pd_X4_firstLegOn⟩ (fun x hx => by cases hx) (fun v34 => ?_)
      refine I_istore 39 [(5, .int v34), (4, .ref v26), (0, .ref x0), (1, .int x1), (2, .int x2), (3, .int x3)] dX5_takeOffAll_37 rfl (by decide) rfl ?_
      refine I_aload 1 41 dX5_takeOffAll_39 rfl rfl ?_
      refine I_iload 0 43 dX5_takeOffAll_41 rfl rfl ?_
      refine I_iconst (-1 : Int32) 44 dX5_takeOffAll_43 rfl (by decide) ?_
      refine I_icmp_eq 51 47 dX5_takeOffAll_44 rfl rfl (fun _ => ?_) (fun _ => ?_)
      · refine I_iconst (0 : Int32) 52 dX5_takeOffAll_51 rfl (by decide) ?_
        refine I_sub [(0, .ref x0), (1, .int x1), (2, .int x2), (3, .int x3), (4, .ref v26), (5, .int v34)] [2, 3, 4, 5, 1, 0] rfl ?_
        exact I_X5_takeOffAll_b52 hst x0 x1 x2 x3 v26 v34 (0 : Int32) v26 _ ih
      · refine I_iconst (1 : Int32) 48 dX5_takeOffAll_47 rfl (by decide) ?_
        refine I_goto 52 dX5_takeOffAll_48 rfl ?_
        refine I_sub [(0, .ref x0), (1, .int x1), (2, .int x2), (3, .int x3), (4, .ref v26), (5, .int v34)] [2, 3, 4, 5, 1, 0] rfl ?_
        exact I_X5_takeOffAll_b52 hst x0 x1 x2 x3 v26 v34 (1 : Int32) v26 _ ih
def f_X5_takeOffAll (t0 mi : Nat) (x0 : Nat) (x1 : Int32) : Mo Int32 :=
    X5_takeOffAll_L4 t0 mi x0 x1 (fun y1_2 =>
    rt y1_2) FU (0 : Int32) (0 : Int32)
set_option maxRecDepth 20000 in
theorem I_X5_takeOffAll {l : Launch} {g : GX} (hst : l.stackTraces = false) (x0 : Nat) (x1 : Int32) : I l g M_X5_takeOffAll cvI 0 [(0, .ref x0), (1, .int x1)] [] (f_X5_takeOffAll (gt0 g) (gmi g) x0 x1) := by
  unfold f_X5_takeOffAll
  refine I_iconst (0 : Int32) 1 dX5_takeOffAll_0 rfl (by decide) ?_
  refine I_istore_n 2 [(2, .int (0 : Int32)), (0, .ref x0), (1, .int x1)] dX5_takeOffAll_1 rfl rfl (by decide) rfl ?_
  refine I_iconst (0 : Int32) 3 dX5_takeOffAll_2 rfl (by decide) ?_
  refine I_istore_n 4 [(3, .int (0 : Int32)), (2, .int (0 : Int32)), (0, .ref x0), (1, .int x1)] dX5_takeOffAll_3 rfl rfl (by decide) rfl ?_
  refine I_sub [(0, .ref x0), (1, .int x1), (2, .int (0 : Int32)), (3, .int (0 : Int32))] [2, 3, 1, 0] rfl ?_
  refine I_X5_takeOffAll_L4 hst x0 x1 _ (fun y1_2 => ?_) FU (0 : Int32) (0 : Int32)
  refine I_iload_n 0 88 dX5_takeOffAll_87 rfl rfl rfl ?_
  exact I_iret dX5_takeOffAll_88 rfl
theorem C_X5_takeOffAll {l : Launch} {g : GX} (hst : l.stackTraces = false) (x0 : Nat) (x1 : Int32) : Cs l g M_X5_takeOffAll cvI [.ref x0, .int x1] (f_X5_takeOffAll (gt0 g) (gmi g) x0 x1) :=
  Cs_of_I [(0, .ref x0), (1, .int x1)] rfl (by decide) hst (Nat.le_of_ble_eq_true rfl) rfl (I_X5_takeOffAll hst x0 x1)
