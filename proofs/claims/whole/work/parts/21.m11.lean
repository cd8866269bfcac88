/-! LunchMarksModel.mark(I)I -/
abbrev M_X6_mark : MS := (yX6_mark, cX6_mark, 2, (some .int), [], 4, 92)
theorem pd_X6_mark : (parseMethodDescriptor (mY M_X6_mark).desc).map (fun d => d.parameters.length) = some 1 := by decide +kernel
def X6_mark_b42 (t0 mi : Nat) (s0 : Int32) : Mo Int32 :=
    rt s0
set_option maxRecDepth 20000 in
theorem I_X6_mark_b42 {l : Launch} {g : GX} (hst : l.stackTraces = false) (s0 : Int32) : I l g M_X6_mark cvI 42 [] [.int s0] (X6_mark_b42 (gt0 g) (gmi g) s0) := by
  unfold X6_mark_b42
  exact I_iret dX6_mark_42 rfl
def f_X6_mark (t0 mi : Nat) (x0 : Nat) (x1 : Int32) : Mo Int32 :=
    bnd (pV x0 7 0 (.int (0 : Int32))) fun _ =>
    bnd (vc x0 7 (f_X6_isBox t0 mi x0 x1)) fun v7 =>
    (if v7 = 0 then
    bnd (vc x0 7 (f_X6_fail t0 mi x0)) fun v14 =>
    rt v14
    else
    bnd (gA' x0 7 23) fun v19 =>
    bnd (ldK 2 v19 ((2 : Int32) * x1)) fun v25 =>
    (if v25 = 0 then
    X6_mark_b42 t0 mi (-1 : Int32)
    else
    bnd (vc x0 7 (f_X6_firstLike t0 mi x0 x1)) fun v32 =>
    bnd (vc x0 7 (f_X6_marksUpTo t0 mi x0 v32)) fun v35 =>
    X6_mark_b42 t0 mi v35))
set_option maxRecDepth 20000 in
theorem I_X6_mark {l : Launch} {g : GX} (hst : l.stackTraces = false) (x0 : Nat) (x1 : Int32) : I l g M_X6_mark cvI 0 [(0, .ref x0), (1, .int x1)] [] (f_X6_mark (gt0 g) (gmi g) x0 x1) := by
  unfold f_X6_mark
  refine I_aload_n 0 1 dX6_mark_0 rfl rfl rfl ?_
  refine I_iconst (0 : Int32) 2 dX6_mark_1 rfl (by decide) ?_
  refine I_put 5 dX6_mark_2 rfl cl7 (by decide) wfl_88 sameF_rfl rfl rfl rfl ?_
  refine I_aload_n 0 6 dX6_mark_5 rfl rfl rfl ?_
  refine I_iload_n 1 7 dX6_mark_6 rfl rfl rfl ?_
  refine I_callVi (As := [.int x1]) (rest := []) 10 (C_X6_isBox hst x0 x1) dX6_mark_7 rfl cl7 rfl (by decide) (Nat.le_of_ble_eq_true rfl) wcd_486 win_200 wml_487 wim_488 wse_489 ⟨by decide, by decide, pd_X6_isBox⟩ (fun x hx => by cases hx) (fun v7 => ?_)
  refine I_if_ne 18 13 dX6_mark_10 rfl rfl (fun _ => ?_) (fun _ => ?_)
  · refine I_aload_n 0 14 dX6_mark_13 rfl rfl rfl ?_
    refine I_callVi (As := []) (rest := []) 17 (C_X6_fail hst x0) dX6_mark_14 rfl cl7 rfl (by decide) (Nat.le_of_ble_eq_true rfl) wcd_204 win_200 wml_205 wim_206 wse_207 ⟨by decide, by decide, pd_X6_fail⟩ (fun x hx => by cases hx) (fun v14 => ?_)
    exact I_iret dX6_mark_17 rfl
  · refine I_aload_n 0 19 dX6_mark_18 rfl rfl rfl ?_
    refine I_getA 22 dX6_mark_19 rfl cl7 (by decide) wfl_70 sameF_rfl (fun v19 => ?_)
    refine I_iconst (2 : Int32) 23 dX6_mark_22 rfl (by decide) ?_
    refine I_iload_n 1 24 dX6_mark_23 rfl rfl rfl ?_
    refine I_imul 25 dX6_mark_24 rfl ?_
    refine I_zald 26 dX6_mark_25 rfl (fun v25 => ?_)
    refine I_if_eq 41 29 dX6_mark_26 rfl rfl (fun _ => ?_) (fun _ => ?_)
    · refine I_iconst (-1 : Int32) 42 dX6_mark_41 rfl (by decide) ?_
      refine I_sub [] [] rfl ?_
      exact I_X6_mark_b42 hst (-1 : Int32)
    · refine I_aload_n 0 30 dX6_mark_29 rfl rfl rfl ?_
      refine I_aload_n 0 31 dX6_mark_30 rfl rfl rfl ?_
      refine I_iload_n 1 32 dX6_mark_31 rfl rfl rfl ?_
      refine I_callVi (As := [.int x1]) (rest := [.ref x0]) 35 (C_X6_firstLike hst x0 x1) dX6_mark_32 rfl cl7 rfl (by decide) (Nat.le_of_ble_eq_true rfl) wcd_572 win_200 wml_573 wim_574 wse_575 ⟨by decide, by decide, pd_X6_firstLike⟩ (fun x hx => by cases hx) (fun v32 => ?_)
      refine I_callVi (As := [.int v32]) (rest := []) 38 (C_X6_marksUpTo hst x0 v32) dX6_mark_35 rfl cl7 rfl (by decide) (Nat.le_of_ble_eq_true rfl) wcd_576 win_200 wml_577 wim_578 wse_579 ⟨by decide, by decide, pd_X6_marksUpTo⟩ (fun x hx => by cases hx) (fun v35 => ?_)
      refine I_goto 42 dX6_mark_38 rfl ?_
      refine I_sub [] [] rfl ?_
      exact I_X6_mark_b42 hst v35
theorem C_X6_mark {l : Launch} {g : GX} (hst : l.stackTraces = false) (x0 : Nat) (x1 : Int32) : Cs l g M_X6_mark cvI [.ref x0, .int x1] (f_X6_mark (gt0 g) (gmi g) x0 x1) :=
  Cs_of_I [(0, .ref x0), (1, .int x1)] rfl (by decide) hst (Nat.le_of_ble_eq_true rfl) rfl (I_X6_mark hst x0 x1)
/-! LunchMarks$Gang.addCarrier(I)I -/
abbrev M_X1_addCarrier : MS := (yX1_addCarrier, cX1_addCarrier, 2, (some .int), [], 0, 0)
theorem pd_X1_addCarrier : (parseMethodDescriptor (mY M_X1_addCarrier).desc).map (fun d => d.parameters.length) = some 1 := by decide +kernel
def f_X1_addCarrier (t0 mi : Nat) (x0 : Nat) (x1 : Int32) : Mo Int32 :=
    bnd (gI x0 2 1) fun v1 =>
    (if v1 < (40 : Int32) then
    bnd (gA' x0 2 0) fun v12 =>
    bnd (gI x0 2 1) fun v16 =>
    bnd (stK 0 v12 v16 x1) fun _ =>
    bnd (gI x0 2 1) fun v23 =>
    bnd (pV x0 2 1 (.int (v23 + (1 : Int32)))) fun _ =>
    bnd (gI x0 2 1) fun v32 =>
    rt (v32 - (1 : Int32))
    else
    rt (-1 : Int32))
set_option maxRecDepth 20000 in
theorem I_X1_addCarrier {l : Launch} {g : GX} (hst : l.stackTraces = false) (x0 : Nat) (x1 : Int32) : I l g M_X1_addCarrier cvI 0 [(0, .ref x0), (1, .int x1)] [] (f_X1_addCarrier (gt0 g) (gmi g) x0 x1) := by
  unfold f_X1_addCarrier
  refine I_aload_n 0 1 dX1_addCarrier_0 rfl rfl rfl ?_
  refine I_getI 4 dX1_addCarrier_1 rfl cl2 (by decide) wfl_30 sameF_rfl (fun v1 => ?_)
  refine I_bipush (40 : Int32) 6 dX1_addCarrier_4 rfl (by decide) ?_
  refine I_icmp_lt 11 9 dX1_addCarrier_6 rfl rfl (fun _ => ?_) (fun _ => ?_)
  · refine I_aload_n 0 12 dX1_addCarrier_11 rfl rfl rfl ?_
    refine I_getA 15 dX1_addCarrier_12 rfl cl2 (by decide) wfl_29 sameF_rfl (fun v12 => ?_)
    refine I_aload_n 0 16 dX1_addCarrier_15 rfl rfl rfl ?_
    refine I_getI 19 dX1_addCarrier_16 rfl cl2 (by decide) wfl_30 sameF_rfl (fun v16 => ?_)
    refine I_iload_n 1 20 dX1_addCarrier_19 rfl rfl rfl ?_
    refine I_iast 21 dX1_addCarrier_20 rfl ?_
    refine I_aload_n 0 22 dX1_addCarrier_21 rfl rfl rfl ?_
    refine I_dup 23 dX1_addCarrier_22 rfl rfl ?_
    refine I_getI 26 dX1_addCarrier_23 rfl cl2 (by decide) wfl_30 sameF_rfl (fun v23 => ?_)
    refine I_iconst (1 : Int32) 27 dX1_addCarrier_26 rfl (by decide) ?_
    refine I_iadd 28 dX1_addCarrier_27 rfl ?_
    refine I_put 31 dX1_addCarrier_28 rfl cl2 (by decide) wfl_30 sameF_rfl rfl rfl rfl ?_
    refine I_aload_n 0 32 dX1_addCarrier_31 rfl rfl rfl ?_
    refine I_getI 35 dX1_addCarrier_32 rfl cl2 (by decide) wfl_30 sameF_rfl (fun v32 => ?_)
    refine I_iconst (1 : Int32) 36 dX1_addCarrier_35 rfl (by decide) ?_
    refine I_isub 37 dX1_addCarrier_36 rfl ?_
    exact I_iret dX1_addCarrier_37 rfl
  · refine I_iconst (-1 : Int32) 10 dX1_addCarrier_9 rfl (by decide) ?_
    exact I_iret dX1_addCarrier_10 rfl
theorem C_X1_addCarrier {l : Launch} {g : GX} (hst : l.stackTraces = false) (x0 : Nat) (x1 : Int32) : Cs l g M_X1_addCarrier cvI [.ref x0, .int x1] (f_X1_addCarrier (gt0 g) (gmi g) x0 x1) :=
  Cs_of_I [(0, .ref x0), (1, .int x1)] rfl (by decide) hst (Nat.le_of_ble_eq_true rfl) rfl (I_X1_addCarrier hst x0 x1)
/-! LunchMarks.carrier(I)I -/
abbrev M_X5_carrier : MS := (yX5_carrier, cX5_carrier, 2, (some .int), [], 1, 21)
theorem pd_X5_carrier : (parseMethodDescriptor (mY M_X5_carrier).desc).map (fun d => d.parameters.length) = some 1 := by decide +kernel
def X5_carrier_b21 (t0 mi : Nat) (s0 : Int32) : Mo Int32 :=
    rt s0
set_option maxRecDepth 20000 in
theorem I_X5_carrier_b21 {l : Launch} {g : GX} (hst : l.stackTraces = false) (s0 : Int32) : I l g M_X5_carrier cvI 21 [] [.int s0] (X5_carrier_b21 (gt0 g) (gmi g) s0) := by
  unfold X5_carrier_b21
  exact I_iret dX5_carrier_21 rfl
def f_X5_carrier (t0 mi : Nat) (x0 : Nat) (x1 : Int32) : Mo Int32 :=
    bnd (f_X5_isWithin t0 mi x1 (31 : Int32)) fun v3 =>
    (if v3 = 0 then
    X5_carrier_b21 t0 mi (-1 : Int32)
    else
    bnd (gA' x0 6 2) fun v10 =>
    bnd (vc v10 2 (f_X1_addCarrier t0 mi v10 x1)) fun v14 =>
    X5_carrier_b21 t0 mi v14)
set_option maxRecDepth 20000 in
theorem I_X5_carrier {l : Launch} {g : GX} (hst : l.stackTraces = false) (x0 : Nat) (x1 : Int32) : I l g M_X5_carrier cvI 0 [(0, .ref x0), (1, .int x1)] [] (f_X5_carrier (gt0 g) (gmi g) x0 x1) := by
  unfold f_X5_carrier
  refine I_iload_n 1 1 dX5_carrier_0 rfl rfl rfl ?_
  refine I_bipush (31 : Int32) 3 dX5_carrier_1 rfl (by decide) ?_
  refine I_callSi (As := [.int x1, .int (31 : Int32)]) (rest := []) 6 (C_X5_isWithin hst x1 (31 : Int32)) dX5_carrier_3 rfl rfl (by decide) (Nat.le_of_ble_eq_true rfl) wcd_80 win_81 wml_82 wst_83 ⟨by decide, by decide, pd_X5_isWithin⟩ (fun x hx => by cases hx) (fun v3 => ?_)
  refine I_if_eq 20 9 dX5_carrier_6 rfl rfl (fun _ => ?_) (fun _ => ?_)
  · refine I_iconst (-1 : Int32) 21 dX5_carrier_20 rfl (by decide) ?_
    refine I_sub [] [] rfl ?_
    exact I_X5_carrier_b21 hst (-1 : Int32)
  · refine I_aload_n 0 10 dX5_carrier_9 rfl rfl rfl ?_
    refine I_getA 13 dX5_carrier_10 rfl cl6 (by decide) wfl_48 sameF_rfl (fun v10 => ?_)
    refine I_iload_n 1 14 dX5_carrier_13 rfl rfl rfl ?_
    refine I_callVi (As := [.int x1]) (rest := []) 17 (C_X1_addCarrier hst v10 x1) dX5_carrier_14 rfl cl2 rfl (by decide) (Nat.le_of_ble_eq_true rfl) wcd_580 win_44 wml_581 wim_582 wse_583 ⟨by decide, by decide, pd_X1_addCarrier⟩ (fun x hx => by cases hx) (fun v14 => ?_)
    refine I_goto 21 dX5_carrier_17 rfl ?_
    refine I_sub [] [] rfl ?_
    exact I_X5_carrier_b21 hst v14
theorem C_X5_carrier {l : Launch} {g : GX} (hst : l.stackTraces = false) (x0 : Nat) (x1 : Int32) : Cs l g M_X5_carrier cvI [.ref x0, .int x1] (f_X5_carrier (gt0 g) (gmi g) x0 x1) :=
  Cs_of_I [(0, .ref x0), (1, .int x1)] rfl (by decide) hst (Nat.le_of_ble_eq_true rfl) rfl (I_X5_carrier hst x0 x1)
/-! LunchMarksModel.carrier(I)I -/
abbrev M_X6_carrier : MS := (yX6_carrier, cX6_carrier, 2, (some .int), [], 0, 0)
theorem pd_X6_carrier : (parseMethodDescriptor (mY M_X6_carrier).desc).map (fun d => d.parameters.length) = some 1 := by decide +kernel
def X6_carrier_b24 (t0 mi : Nat) : Mo Int32 :=
    rt (-1 : Int32)
set_option maxRecDepth 20000 in
theorem I_X6_carrier_b24 {l : Launch} {g : GX} (hst : l.stackTraces = false) : I l g M_X6_carrier cvI 24 [] [] (X6_carrier_b24 (gt0 g) (gmi g)) := by
  unfold X6_carrier_b24
  refine I_iconst (-1 : Int32) 25 dX6_carrier_24 rfl (by decide) ?_
  exact I_iret dX6_carrier_25 rfl
def f_X6_carrier (t0 mi : Nat) (x0 : Nat) (x1 : Int32) : Mo Int32 :=
    bnd (pV x0 7 0 (.int (0 : Int32))) fun _ =>
    bnd (gI x0 7 5) fun v6 =>
    (if v6 = (40 : Int32) then
    X6_carrier_b24 t0 mi
    else
    (if x1 < 0 then
    X6_carrier_b24 t0 mi
    else
    (if x1 ≤ (31 : Int32) then
    bnd (gA' x0 7 12) fun v27 =>
    bnd (gI x0 7 5) fun v31 =>
    bnd (stK 0 v27 v31 x1) fun _ =>
    bnd (gI x0 7 5) fun v38 =>
    bnd (pV x0 7 5 (.int (v38 + (1 : Int32)))) fun _ =>
    bnd (gI x0 7 5) fun v47 =>
    rt (v47 - (1 : Int32))
    else
    X6_carrier_b24 t0 mi)))
set_option maxRecDepth 20000 in
theorem I_X6_carrier {l : Launch} {g : GX} (hst : l.stackTraces = false) (x0 : Nat) (x1 : Int32) : I l g M_X6_carrier cvI 0 [(0, .ref x0), (1, .int x1)] [] (f_X6_carrier (gt0 g) (gmi g) x0 x1) := by
  unfold f_X6_carrier
  refine I_aload_n 0 1 dX6_carrier_0 rfl rfl rfl ?_
  refine I_iconst (0 : Int32) 2 dX6_carrier_1 rfl (by decide) ?_
  refine I_put 5 dX6_carrier_2 rfl cl7 (by decide) wfl_88 sameF_rfl rfl rfl rfl ?_
  refine I_aload_n 0 6 dX6_carrier_5 rfl rfl rfl ?_
  refine I_getI 9 dX6_carrier_6 rfl cl7 (by decide) wfl_584 sameF_rfl (fun v6 => ?_)
  refine I_bipush (40 : Int32) 11 dX6_carrier_9 rfl (by decide) ?_
  refine I_icmp_eq 24 14 dX6_carrier_11 rfl rfl (fun _ => ?_) (fun _ => ?_)
  · refine I_sub [] [] rfl ?_
    exact I_X6_carrier_b24 hst
  · refine I_iload_n 1 15 dX6_carrier_14 rfl rfl rfl ?_
    refine I_if_lt 24 18 dX6_carrier_15 rfl rfl (fun _ => ?_) (fun _ => ?_)
    · refine I_sub [] [] rfl ?_
      exact I_X6_carrier_b24 hst
    · refine I_iload_n 1 19 dX6_carrier_18 rfl rfl rfl ?_
      refine I_bipush (31 : Int32) 21 dX6_carrier_19 rfl (by decide) ?_
      refine I_icmp_le 26 24 dX6_carrier_21 rfl rfl (fun _ => ?_) (fun _ => ?_)
      · refine I_aload_n 0 27 dX6_carrier_26 rfl rfl rfl ?_
        refine I_getA 30 dX6_carrier_27 rfl cl7 (by decide) wfl_58 sameF_rfl (fun v27 => ?_)
        refine I_aload_n 0 31 dX6_carrier_30 rfl rfl rfl ?_
        refine I_getI 34 dX6_carrier_31 rfl cl7 (by decide) wfl_584 sameF_rfl (fun v31 => ?_)
        refine I_iload_n 1 35 dX6_carrier_34 rfl rfl rfl ?_
        refine I_iast 36 dX6_carrier_35 rfl ?_
        refine I_aload_n 0 37 dX6_carrier_36 rfl rfl rfl ?_
        refine I_dup 38 dX6_carrier_37 rfl rfl ?_
        refine I_getI 41 dX6_carrier_38 rfl cl7 (by decide) wfl_584 sameF_rfl (fun v38 => ?_)
        refine I_iconst (1 : Int32) 42 dX6_carrier_41 rfl (by decide) ?_
        refine I_iadd 43 dX6_carrier_42 rfl ?_
        refine I_put 46 dX6_carrier_43 rfl cl7 (by decide) wfl_584 sameF_rfl rfl rfl rfl ?_
        refine I_aload_n 0 47 dX6_carrier_46 rfl rfl rfl ?_
        refine I_getI 50 dX6_carrier_47 rfl cl7 (by decide) wfl_584 sameF_rfl (fun v47 => ?_)
        refine I_iconst (1 : Int32) 51 dX6_carrier_50 rfl (by decide) ?_
        refine I_isub 52 dX6_carrier_51 rfl ?_
        exact I_iret dX6_carrier_52 rfl
      · refine I_sub [] [] rfl ?_
        exact I_X6_carrier_b24 hst
theorem C_X6_carrier {l : Launch} {g : GX} (hst : l.stackTraces = false) (x0 : Nat) (x1 : Int32) : Cs l g M_X6_carrier cvI [.ref x0, .int x1] (f_X6_carrier (gt0 g) (gmi g) x0 x1) :=
  Cs_of_I [(0, .ref x0), (1, .int x1)] rfl (by decide) hst (Nat.le_of_ble_eq_true rfl) rfl (I_X6_carrier hst x0 x1)
/-! LunchMarks$Gang.allDays()I -/
abbrev M_X1_allDays : MS := (yX1_allDays, cX1_allDays, 3, (some .int), [], 0, 0)
theorem pd_X1_allDays : (parseMethodDescriptor (mY M_X1_allDays).desc).map (fun d => d.parameters.length) = some 0 := by decide +kernel
def X1_allDays_L4 (t0 mi : Nat) (x0 : Nat) (kx : Int32 → Mo Int32) : Nat → Int32 → Int32 → Mo Int32
  | 0, _, _ => flr
  | n + 1, x1, x2 =>
    bnd (gI x0 2 1) fun v6 =>
    (if v6 ≤ x2 then
    kx x1
    else
    bnd (gA' x0 2 0) fun v14 =>
    bnd (ldK 0 v14 x2) fun v18 =>
    (X1_allDays_L4 t0 mi x0 kx n) (x1 + v18) (x2 + 1))
set_option maxRecDepth 20000 in
theorem I_X1_allDays_L4 {l : Launch} {g : GX} (hst : l.stackTraces = false) (x0 : Nat) (kx : Int32 → Mo Int32) (hkx : ∀ (z1 : Int32), I l g M_X1_allDays cvI 27 [(1, .int z1)] [] (kx z1)) : ∀ (n : Nat) (x1 : Int32) (x2 : Int32), I l g M_X1_allDays cvI 4 [(0, .ref x0), (1, .int x1), (2, .int x2)] [] (X1_allDays_L4 (gt0 g) (gmi g) x0 kx n x1 x2) := by
  intro n
  induction n with
  | zero => intro x1 x2; rw [X1_allDays_L4]; exact I_flr
  | succ n ih =>
    intro x1 x2; rw [X1_allDays_L4]
    refine I_iload_n 2 5 dX1_allDays_4 rfl rfl rfl ?_
    refine I_aload_n 0 6 dX1_allDays_5 rfl rfl rfl ?_
    refine I_getI 9 dX1_allDays_6 rfl cl2 (by decide) wfl_30 sameF_rfl (fun v6 => ?_)
    refine I_icmp_ge 27 12 dX1_allDays_9 rfl rfl (fun _ => ?_) (fun _ => ?_)
    · refine I_sub [(1, .int x1)] [1] rfl ?_
      exact hkx x1
    · refine I_iload_n 1 13 dX1_allDays_12 rfl rfl rfl ?_
      refine I_aload_n 0 14 dX1_allDays_13 rfl rfl rfl ?_
      refine I_getA 17 dX1_allDays_14 rfl cl2 (by decide) wfl_29 sameF_rfl (fun v14 => ?_)
      refine I_iload_n 2 18 dX1_allDays_17 rfl rfl rfl ?_
      refine I_iald 19 dX1_allDays_18 rfl (fun v18 => ?_)
      refine I_iadd 20 dX1_allDays_19 rfl ?_
      refine I_istore_n 21 [(1, .int (x1 + v18)), (0, .ref x0), (2, .int x2)] dX1_allDays_20 rfl rfl (by decide) rfl ?_
      refine I_iinc 24 (x2 + 1) [(2, .int (x2 + 1)), (1, .int (x1 + v18)), (0, .ref x0)] 2 dX1_allDays_21 rfl rfl rfl (by decide) rfl ?_
      refine I_goto 4 dX1_allDays_24 rfl ?_
      refine I_sub [(0, .ref x0), (1, .int (x1 + v18)), (2, .int (x2 + 1))] [2, 1, 0] rfl ?_
      exact ih (x1 + v18) (x2 + 1)
def f_X1_allDays (t0 mi : Nat) (x0 : Nat) : Mo Int32 :=
    X1_allDays_L4 t0 mi x0 (fun y1_1 =>
    rt y1_1) FU (0 : Int32) (0 : Int32)
set_option maxRecDepth 20000 in
theorem I_X1_allDays {l : Launch} {g : GX} (hst : l.stackTraces = false) (x0 : Nat) : I l g M_X1_allDays cvI 0 [(0, .ref x0)] [] (f_X1_allDays (gt0 g) (gmi g) x0) := by
  unfold f_X1_allDays
  refine I_iconst (0 : Int32) 1 dX1_allDays_0 rfl (by decide) ?_
  refine I_istore_n 2 [(1, .int (0 : Int32)), (0, .ref x0)] dX1_allDays_1 rfl rfl (by decide) rfl ?_
  refine I_iconst (0 : Int32) 3 dX1_allDays_2 rfl (by decide) ?_
  refine I_istore_n 4 [(2, .int (0 : Int32)), (1, .int (0 : Int32)), (0, .ref x0)] dX1_allDays_3 rfl rfl (by decide) rfl ?_
  refine I_sub [(0, .ref x0), (1, .int (0 : Int32)), (2, .int (0 : Int32))] [2, 1, 0] rfl ?_
  refine I_X1_allDays_L4 hst x0 _ (fun y1_1 => ?_) FU (0 : Int32) (0 : Int32)
  refine I_iload_n 0 28 dX1_allDays_27 rfl rfl rfl ?_
  exact I_iret dX1_allDays_28 rfl
theorem C_X1_allDays {l : Launch} {g : GX} (hst : l.stackTraces = false) (x0 : Nat) : Cs l g M_X1_allDays cvI [.ref x0] (f_X1_allDays (gt0 g) (gmi g) x0) :=
  Cs_of_I [(0, .ref x0)] rfl (by decide) hst (Nat.le_of_ble_eq_true rfl) rfl (I_X1_allDays hst x0)
/-! LunchMarks$Gang.weighed(IIZ)I -/
abbrev M_X1_weighed : MS := (yX1_weighed, cX1_weighed, 4, (some .int), [], 0, 0)
theorem pd_X1_weighed : (parseMethodDescriptor (mY M_X1_weighed).desc).map (fun d => d.parameters.length) = some 3 := by decide +kernel
def X1_weighed_b16 (t0 mi : Nat) (s0 : Int32) : Mo Int32 :=
    rt s0
set_option maxRecDepth 20000 in
theorem I_X1_weighed_b16 {l : Launch} {g : GX} (hst : l.stackTraces = false) (s0 : Int32) : I l g M_X1_weighed cvI 16 [] [.int s0] (X1_weighed_b16 (gt0 g) (gmi g) s0) := by
  unfold X1_weighed_b16
  exact I_iret dX1_weighed_16 rfl
def f_X1_weighed (t0 mi : Nat) (x0 : Nat) (x1 : Int32) (x2 : Int32) (x3 : Int32) : Mo Int32 :=
    (if x3 = 0 then
    bnd (gA' x0 2 0) fun v10 =>
    bnd (ldK 0 v10 x1) fun v14 =>
    X1_weighed_b16 t0 mi (x2 * v14)
    else
    X1_weighed_b16 t0 mi x2)
set_option maxRecDepth 20000 in
theorem I_X1_weighed {l : Launch} {g : GX} (hst : l.stackTraces = false) (x0 : Nat) (x1 : Int32) (x2 : Int32) (x3 : Int32) : I l g M_X1_weighed cvI 0 [(0, .ref x0), (1, .int x1), (2, .int x2), (3, .int x3)] [] (f_X1_weighed (gt0 g) (gmi g) x0 x1 x2 x3) := by
  unfold f_X1_weighed
  refine I_iload_n 3 1 dX1_weighed_0 rfl rfl rfl ?_
  refine I_if_eq 8 4 dX1_weighed_1 rfl rfl (fun _ => ?_) (fun _ => ?_)
  · refine I_iload_n 2 9 dX1_weighed_8 rfl rfl rfl ?_
    refine I_aload_n 0 10 dX1_weighed_9 rfl rfl rfl ?_
    refine I_getA 13 dX1_weighed_10 rfl cl2 (by decide) wfl_29 sameF_rfl (fun v10 => ?_)
    refine I_iload_n 1 14 dX1_weighed_13 rfl rfl rfl ?_
    refine I_iald 15 dX1_weighed_14 rfl (fun v14 => ?_)
    refine I_imul 16 dX1_weighed_15 rfl ?_
    refine I_sub [] [] rfl ?_
    exact I_X1_weighed_b16 hst (x2 * v14)
  · refine I_iload_n 2 5 dX1_weighed_4 rfl rfl rfl ?_
    refine I_goto 16 dX1_weighed_5 rfl ?_
    refine I_sub [] [] rfl ?_
    exact I_X1_weighed_b16 hst x2
theorem C_X1_weighed {l : Launch} {g : GX} (hst : l.stackTraces = false) (x0 : Nat) (x1 : Int32) (x2 : Int32) (x3 : Int32) : Cs l g M_X1_weighed cvI [.ref x0, .int x1, .int x2, .int x3] (f_X1_weighed (gt0 g) (gmi g) x0 x1 x2 x3) :=
  Cs_of_I [(0, .ref x0), (1, .int x1), (2, .int x2), (3, .int x3)] rfl (by decide) hst (Nat.le_of_ble_eq_true rfl) rfl (I_X1_weighed hst x0 x1 x2 x3)
/-! LunchMarks$Gang.partOf(II)I -/
abbrev M_X1_partOf : MS := (yX1_partOf, cX1_partOf, 12, (some .int), [], 1, 23)
theorem pd_X1_partOf : (parseMethodDescriptor (mY M_X1_partOf).desc).map (fun d => d.parameters.length) = some 2 := by decide +kernel
def X1_partOf_b120 (t0 mi : Nat) (kh60 : Int32 → Int32 → Int32 → Mo Int32) (x0 : Nat) (x1 : Int32) (x2 : Int32) (x4 : Int32) (x5 : Int32) (x6 : Int32) (x7 : Int32) (x8 : Int32) (x9 : Int32) : Mo Int32 :=
    kh60 x6 x7 (x9 + 1)
set_option maxRecDepth 20000 in
theorem I_X1_partOf_b120 {l : Launch} {g : GX} (hst : l.stackTraces = false) (x0 : Nat) (x1 : Int32) (x2 : Int32) (x4 : Int32) (x5 : Int32) (x6 : Int32) (x7 : Int32) (x8 : Int32) (x9 : Int32) (kh60 : Int32 → Int32 → Int32 → Mo Int32) (hkh60 : ∀ (z6 : Int32) (z7 : Int32) (z9 : Int32), I l g M_X1_partOf cvI 60 [(0, .ref x0), (1, .int x1), (2, .int x2), (4, .int x4), (5, .int x5), (6, .int z6), (7, .int z7), (8, .int x8), (9, .int z9)] [] (kh60 z6 z7 z9)) : I l g M_X1_partOf cvI 120 [(0, .ref x0), (1, .int x1), (2, .int x2), (4, .int x4), (5, .int x5), (6, .int x6), (7, .int x7), (8, .int x8), (9, .int x9)] [] (X1_partOf_b120 (gt0 g) (gmi g) kh60 x0 x1 x2 x4 x5 x6 x7 x8 x9) := by
  unfold X1_partOf_b120
  refine I_iinc 123 (x9 + 1) [(9, .int (x9 + 1)), (0, .ref x0), (1, .int x1), (2, .int x2), (4, .int x4), (5, .int x5), (6, .int x6), (7, .int x7), (8, .int x8)] 8 dX1_partOf_120 rfl rfl rfl (by decide) rfl ?_
  refine I_goto 60 dX1_partOf_123 rfl ?_
  refine I_sub [(0, .ref x0), (1, .int x1), (2, .int x2), (4, .int x4), (5, .int x5), (6, .int x6), (7, .int x7), (8, .int x8), (9, .int (x9 + 1))] [1, 2, 3, 4, 5, 6, 7, 8, 0] rfl ?_
  exact hkh60 x6 x7 (x9 + 1)
def X1_partOf_b117 (t0 mi : Nat) (kh60 : Int32 → Int32 → Int32 → Mo Int32) (x0 : Nat) (x1 : Int32) (x2 : Int32) (x4 : Int32) (x5 : Int32) (x6 : Int32) (x7 : Int32) (x8 : Int32) (x9 : Int32) : Mo Int32 :=
    X1_partOf_b120 t0 mi kh60 x0 x1 x2 x4 x5 x6 (x7 + 1) x8 x9
set_option maxRecDepth 20000 in
theorem I_X1_partOf_b117 {l : Launch} {g : GX} (hst : l.stackTraces = false) (x0 : Nat) (x1 : Int32) (x2 : Int32) (x4 : Int32) (x5 : Int32) (x6 : Int32) (x7 : Int32) (x8 : Int32) (x9 : Int32) (kh60 : Int32 → Int32 → Int32 → Mo Int32) (hkh60 : ∀ (z6 : Int32) (z7 : Int32) (z9 : Int32), I l g M_X1_partOf cvI 60 [(0, .ref x0), (1, .int x1), (2, .int x2), (4, .int x4), (5, .int x5), (6, .int z6), (7, .int z7), (8, .int x8), (9, .int z9)] [] (kh60 z6 z7 z9)) : I l g M_X1_partOf cvI 117 [(0, .ref x0), (1, .int x1), (2, .int x2), (4, .int x4), (5, .int x5), (6, .int x6), (7, .int x7), (8, .int x8), (9, .int x9)] [] (X1_partOf_b117 (gt0 g) (gmi g) kh60 x0 x1 x2 x4 x5 x6 x7 x8 x9) := by
  unfold X1_partOf_b117
  refine I_iinc 120 (x7 + 1) [(7, .int (x7 + 1)), (0, .ref x0), (1, .int x1), (2, .int x2), (4, .int x4), (5, .int x5), (6, .int x6), (8, .int x8), (9, .int x9)] 6 dX1_partOf_117 rfl rfl rfl (by decide) rfl ?_
  refine I_sub [(0, .ref x0), (1, .int x1), (2, .int x2), (4, .int x4), (5, .int x5), (6, .int x6), (7, .int (x7 + 1)), (8, .int x8), (9, .int x9)] [1, 2, 3, 4, 5, 6, 0, 7, 8] rfl ?_
  exact I_X1_partOf_b120 hst x0 x1 x2 x4 x5 x6 (x7 + 1) x8 x9 _ hkh60
def X1_partOf_L60 (t0 mi : Nat) (x0 : Nat) (x1 : Int32) (x2 : Int32) (x4 : Int32) (x5 : Int32) (x8 : Int32) (kx : Int32 → Int32 → Mo Int32) : Nat → Int32 → Int32 → Int32 → Mo Int32
  | 0, _, _, _ => flr
  | n + 1, x6, x7, x9 =>
    bnd (gI x0 2 1) fun v63 =>
    (if v63 ≤ x9 then
    kx x6 x7
    else
    bnd (vc x0 2 (f_X1_weighed t0 mi x0 x9 x2 x4)) fun v75 =>
    bnd (divI v75 x5) fun v86 =>
    bnd (remI v75 x5) fun v94 =>
    (if x8 < v94 then
    X1_partOf_b117 t0 mi (X1_partOf_L60 t0 mi x0 x1 x2 x4 x5 x8 kx n) x0 x1 x2 x4 x5 (x6 - v86) x7 x8 x9
    else
    (if v94 = x8 then
    (if x1 ≤ x9 then
    X1_partOf_b120 t0 mi (X1_partOf_L60 t0 mi x0 x1 x2 x4 x5 x8 kx n) x0 x1 x2 x4 x5 (x6 - v86) x7 x8 x9
    else
    X1_partOf_b117 t0 mi (X1_partOf_L60 t0 mi x0 x1 x2 x4 x5 x8 kx n) x0 x1 x2 x4 x5 (x6 - v86) x7 x8 x9)
    else
    X1_partOf_b120 t0 mi (X1_partOf_L60 t0 mi x0 x1 x2 x4 x5 x8 kx n) x0 x1 x2 x4 x5 (x6 - v86) x7 x8 x9)))
set_option maxRecDepth 20000 in
theorem I_X1_partOf_L60 {l : Launch} {g : GX} (hst : l.stackTraces = false) (x0 : Nat) (x1 : Int32) (x2 : Int32) (x4 : Int32) (x5 : Int32) (x8 : Int32) (kx : Int32 → Int32 → Mo Int32) (hkx : ∀ (z6 : Int32) (z7 : Int32), I l g M_X1_partOf cvI 126 [(0, .ref x0), (1, .int x1), (2, .int x2), (4, .int x4), (5, .int x5), (6, .int z6), (7, .int z7)] [] (kx z6 z7)) : ∀ (n : Nat) (x6 : Int32) (x7 : Int32) (x9 : Int32), I l g M_X1_partOf cvI 60 [(0, .ref x0), (1, .int x1), (2, .int x2), (4, .int x4), (5, .int x5), (6, .int x6), (7, .int x7), (8, .int x8), (9, .int x9)] [] (X1_partOf_L60 (gt0 g) (gmi g) x0 x1 x2 x4 x5 x8 kx n x6 x7 x9) := by
  intro n
  induction n with
  | zero => intro x6 x7 x9; rw [X1_partOf_L60]; exact I_flr
  | succ n ih =>
    intro x6 x7 x9; rw [X1_partOf_L60]
    refine I_iload 8 62 dX1_partOf_60 rfl rfl ?_
    refine I_aload_n 0 63 dX1_partOf_62 rfl rfl rfl ?_
    refine I_getI 66 dX1_partOf_63 rfl cl2 (by decide) wfl_30 sameF_rfl (fun v63 => ?_)
    refine I_icmp_ge 126 69 dX1_partOf_66 rfl rfl (fun _ => ?_) (fun _ => ?_)
    · refine I_sub [(0, .ref x0), (1, .int x1), (2, .int x2), (4, .int x4), (5, .int x5), (6, .int x6), (7, .int x7)] [0, 1, 2, 3, 4, 5, 6] rfl ?_
      exact hkx x6 x7
    · refine I_aload_n 0 70 dX1_partOf_69 rfl rfl rfl ?_
      refine I_iload 8 72 dX1_partOf_70 rfl rfl ?_
      refine I_iload_n 2 73 dX1_partOf_72 rfl rfl rfl ?_
      refine I_iload 3 75 dX1_partOf_73 rfl rfl ?_
      refine I_callVi (As := [.int x9, .int x2, .int x4]) (rest := []) 78 (C_X1_weighed hst x0 x9 x2 x4) dX1_partOf_75 rfl cl2 rfl (by decide) (Nat.le_of_ble_eq_true rfl) wcd_589 win_44 wml_590 wim_591 wse_592 ⟨by decide, by decide, pd_X1_weighed⟩ (fun x hx => by cases hx) (fun v75 => ?_)
      refine I_istore 80 [(10, .int v75), (0, .ref x0), (1, .int x1), (2, .int x2), (4, .int x4), (5, .int x5), (6, .int x6), (7, .int x7), (8, .int x8), (9, .int x9)] dX1_partOf_78 rfl (by decide) rfl ?_
      refine I_iload 6 82 dX1_partOf_80 rfl rfl ?_
      refine I_iload 0 84 dX1_partOf_82 rfl rfl ?_
      refine I_iload 5 86 dX1_partOf_84 rfl rfl ?_
      refine I_idiv 87 dX1_partOf_86 rfl (fun v86 => ?_)
      refine I_isub 88 dX1_partOf_87 rfl ?_
      refine I_istore 90 [(6, .int (x6 - v86)), (10, .int v75), (0, .ref x0), (1, .int x1), (2, .int x2), (4, .int x4), (5, .int x5), (7, .int x7), (8, .int x8), (9, .int x9)] dX1_partOf_88 rfl (by decide) rfl ?_
      refine I_iload 1 92 dX1_partOf_90 rfl rfl ?_
      refine I_iload 6 94 dX1_partOf_92 rfl rfl ?_
      refine I_irem 95 dX1_partOf_94 rfl (fun v94 => ?_)
      refine I_istore 97 [(11, .int v94), (6, .int (x6 - v86)), (10, .int v75), (0, .ref x0), (1, .int x1), (2, .int x2), (4, .int x4), (5, .int x5), (7, .int x7), (8, .int x8), (9, .int x9)] dX1_partOf_95 rfl (by decide) rfl ?_
      refine I_iload 0 99 dX1_partOf_97 rfl rfl ?_
      refine I_iload 9 101 dX1_partOf_99 rfl rfl ?_
      refine I_icmp_gt 117 104 dX1_partOf_101 rfl rfl (fun _ => ?_) (fun _ => ?_)
      · refine I_sub [(0, .ref x0), (1, .int x1), (2, .int x2), (4, .int x4), (5, .int x5), (6, .int (x6 - v86)), (7, .int x7), (8, .int x8), (9, .int x9)] [3, 4, 5, 6, 7, 1, 8, 9, 10] rfl ?_
        exact I_X1_partOf_b117 hst x0 x1 x2 x4 x5 (x6 - v86) x7 x8 x9 _ ih
      · refine I_iload 0 106 dX1_partOf_104 rfl rfl ?_
        refine I_iload 9 108 dX1_partOf_106 rfl rfl ?_
        refine I_icmp_ne 120 111 dX1_partOf_108 rfl rfl (fun _ => ?_) (fun _ => ?_)
        · refine I_iload 10 113 dX1_partOf_111 rfl rfl ?_
          refine I_iload_n 4 114 dX1_partOf_113 rfl rfl rfl ?_
          refine I_icmp_ge 120 117 dX1_partOf_114 rfl rfl (fun _ => ?_) (fun _ => ?_)
          · refine I_sub [(0, .ref x0), (1, .int x1), (2, .int x2), (4, .int x4), (5, .int x5), (6, .int (x6 - v86)), (7, .int x7), (8, .int x8), (9, .int x9)] [3, 4, 5, 6, 7, 1, 8, 9, 10] rfl ?_
            exact I_X1_partOf_b120 hst x0 x1 x2 x4 x5 (x6 - v86) x7 x8 x9 _ ih
          · refine I_sub [(0, .ref x0), (1, .int x1), (2, .int x2), (4, .int x4), (5, .int x5), (6, .int (x6 - v86)), (7, .int x7), (8, .int x8), (9, .int x9)] [3, 4, 5, 6, 7, 1, 8, 9, 10] rfl ?_
            exact I_X1_partOf_b117 hst x0 x1 x2 x4 x5 (x6 - v86) x7 x8 x9 _ ih
        · refine I_sub [(0, .ref x0), (1, .int x1), (2, .int x2), (4, .int x4), (5, .int x5), (6, .int (x6 - v86)), (7, .int x7), (8, .int x8), (9, .int x9)] [3, 4, 5, 6, 7, 1, 8, 9, 10] rfl ?_
          exact I_X1_partOf_b120 hst x0 x1 x2 x4 x5 (x6 - v86) x7 x8 x9 _ ih
def X1_partOf_b155 (t0 mi : Nat) (s0 : Int32) : Mo Int32 :=
    rt s0
set_option maxRecDepth 20000 in
theorem I_X1_partOf_b155 {l : Launch} {g : GX} (hst : l.stackTraces = false) (s0 : Int32) : I l g M_X1_partOf cvI 155 [] [.int s0] (X1_partOf_b155 (gt0 g) (gmi g) s0) := by
  unfold X1_partOf_b155
  exact I_iret dX1_partOf_155 rfl
def X1_partOf_b29 (t0 mi : Nat) (x0 : Nat) (x1 : Int32) (x2 : Int32) (x4 : Int32) (s0 : Int32) : Mo Int32 :=
    (if 0 < s0 then
    bnd (vc x0 2 (f_X1_weighed t0 mi x0 x1 x2 x4)) fun v49 =>
    bnd (remI v49 s0) fun v54 =>
    X1_partOf_L60 t0 mi x0 x1 x2 x4 s0 v54 (fun y1_6 y1_7 =>
    bnd (vc x0 2 (f_X1_weighed t0 mi x0 x1 x2 x4)) fun v131 =>
    bnd (divI v131 s0) fun v136 =>
    (if y1_6 ≤ y1_7 then
    X1_partOf_b155 t0 mi v136
    else
    X1_partOf_b155 t0 mi (v136 + (1 : Int32)))) FU x2 (0 : Int32) (0 : Int32)
    else
    rt (0 : Int32))
set_option maxRecDepth 20000 in
theorem I_X1_partOf_b29 {l : Launch} {g : GX} (hst : l.stackTraces = false) (x0 : Nat) (x1 : Int32) (x2 : Int32) (x4 : Int32) (s0 : Int32) : I l g M_X1_partOf cvI 29 [(0, .ref x0), (1, .int x1), (2, .int x2), (4, .int x4)] [.int s0] (X1_partOf_b29 (gt0 g) (gmi g) x0 x1 x2 x4 s0) := by
  unfold X1_partOf_b29
  refine I_istore 31 [(5, .int s0), (0, .ref x0), (1, .int x1), (2, .int x2), (4, .int x4)] dX1_partOf_29 rfl (by decide) rfl ?_
  refine I_iload 0 33 dX1_partOf_31 rfl rfl ?_
  refine I_if_gt 38 36 dX1_partOf_33 rfl rfl (fun _ => ?_) (fun _ => ?_)
  · refine I_iload_n 3 39 dX1_partOf_38 rfl rfl rfl ?_
    refine I_istore 41 [(6, .int x2), (5, .int s0), (0, .ref x0), (1, .int x1), (2, .int x2), (4, .int x4)] dX1_partOf_39 rfl (by decide) rfl ?_
    refine I_iconst (0 : Int32) 42 dX1_partOf_41 rfl (by decide) ?_
    refine I_istore 44 [(7, .int (0 : Int32)), (6, .int x2), (5, .int s0), (0, .ref x0), (1, .int x1), (2, .int x2), (4, .int x4)] dX1_partOf_42 rfl (by decide) rfl ?_
    refine I_aload_n 3 45 dX1_partOf_44 rfl rfl rfl ?_
    refine I_iload_n 4 46 dX1_partOf_45 rfl rfl rfl ?_
    refine I_iload_n 5 47 dX1_partOf_46 rfl rfl rfl ?_
    refine I_iload 6 49 dX1_partOf_47 rfl rfl ?_
    refine I_callVi (As := [.int x1, .int x2, .int x4]) (rest := []) 52 (C_X1_weighed hst x0 x1 x2 x4) dX1_partOf_49 rfl cl2 rfl (by decide) (Nat.le_of_ble_eq_true rfl) wcd_589 win_44 wml_590 wim_591 wse_592 ⟨by decide, by decide, pd_X1_weighed⟩ (fun x hx => by cases hx) (fun v49 => ?_)
    refine I_iload 2 54 dX1_partOf_52 rfl rfl ?_
    refine I_irem 55 dX1_partOf_54 rfl (fun v54 => ?_)
    refine I_istore 57 [(8, .int v54), (7, .int (0 : Int32)), (6, .int x2), (5, .int s0), (0, .ref x0), (1, .int x1), (2, .int x2), (4, .int x4)] dX1_partOf_55 rfl (by decide) rfl ?_
    refine I_iconst (0 : Int32) 58 dX1_partOf_57 rfl (by decide) ?_
    refine I_istore 60 [(9, .int (0 : Int32)), (8, .int v54), (7, .int (0 : Int32)), (6, .int x2), (5, .int s0), (0, .ref x0), (1, .int x1), (2, .int x2), (4, .int x4)] dX1_partOf_58 rfl (by decide) rfl ?_
    refine I_sub [(0, .ref x0), (1, .int x1), (2, .int x2), (4, .int x4), (5, .int s0), (6, .int x2), (7, .int (0 : Int32)), (8, .int v54), (9, .int (0 : Int32))] [5, 6, 7, 8, 4, 3, 2, 1, 0] rfl ?_
    refine I_X1_partOf_L60 hst x0 x1 x2 x4 s0 v54 _ (fun y1_6 y1_7 => ?_) FU x2 (0 : Int32) (0 : Int32)
    refine I_aload_n 0 127 dX1_partOf_126 rfl rfl rfl ?_
    refine I_iload_n 1 128 dX1_partOf_127 rfl rfl rfl ?_
    refine I_iload_n 2 129 dX1_partOf_128 rfl rfl rfl ?_
    refine I_iload 3 131 dX1_partOf_129 rfl rfl ?_
    refine I_callVi (As := [.int x1, .int x2, .int x4]) (rest := []) 134 (C_X1_weighed hst x0 x1 x2 x4) dX1_partOf_131 rfl cl2 rfl (by decide) (Nat.le_of_ble_eq_true rfl) wcd_589 win_44 wml_590 wim_591 wse_592 ⟨by decide, by decide, pd_X1_weighed⟩ (fun x hx => by cases hx) (fun v131 => ?_)
    refine I_iload 4 136 dX1_partOf_134 rfl rfl ?_
    refine I_idiv 137 dX1_partOf_136 rfl (fun v136 => ?_)
    refine I_istore 139 [(9, .int v136), (0, .ref x0), (1, .int x1), (2, .int x2), (4, .int x4), (5, .int s0), (6, .int y1_6), (7, .int y1_7)] dX1_partOf_137 rfl (by decide) rfl ?_
    refine I_iload 7 141 dX1_partOf_139 rfl rfl ?_
    refine I_iload 6 143 dX1_partOf_141 rfl rfl ?_
    refine I_icmp_ge 153 146 dX1_partOf_143 rfl rfl (fun _ => ?_) (fun _ => ?_)
    · refine I_iload 0 155 dX1_partOf_153 rfl rfl ?_
      refine I_sub [] [] rfl ?_
      exact I_X1_partOf_b155 hst v136
    · refine I_iload 0 148 dX1_partOf_146 rfl rfl ?_
      refine I_iconst (1 : Int32) 149 dX1_partOf_148 rfl (by decide) ?_
      refine I_iadd 150 dX1_partOf_149 rfl ?_
      refine I_goto 155 dX1_partOf_150 rfl ?_
      refine I_sub [] [] rfl ?_
      exact I_X1_partOf_b155 hst (v136 + (1 : Int32))
  · refine I_iconst (0 : Int32) 37 dX1_partOf_36 rfl (by decide) ?_
    exact I_iret dX1_partOf_37 rfl
def X1_partOf_b14 (t0 mi : Nat) (x0 : Nat) (x1 : Int32) (x2 : Int32) (x3 : Int32) (s0 : Int32) : Mo Int32 :=
    (if s0 = 0 then
    X1_partOf_b29 t0 mi x0 x1 x2 s0 x3
    else
    bnd (gI x0 2 1) fun v22 =>
    X1_partOf_b29 t0 mi x0 x1 x2 s0 v22)
set_option maxRecDepth 20000 in
theorem I_X1_partOf_b14 {l : Launch} {g : GX} (hst : l.stackTraces = false) (x0 : Nat) (x1 : Int32) (x2 : Int32) (x3 : Int32) (s0 : Int32) : I l g M_X1_partOf cvI 14 [(0, .ref x0), (1, .int x1), (2, .int x2), (3, .int x3)] [.int s0] (X1_partOf_b14 (gt0 g) (gmi g) x0 x1 x2 x3 s0) := by
  unfold X1_partOf_b14
  refine I_istore 16 [(4, .int s0), (0, .ref x0), (1, .int x1), (2, .int x2), (3, .int x3)] dX1_partOf_14 rfl (by decide) rfl ?_
  refine I_iload 0 18 dX1_partOf_16 rfl rfl ?_
  refine I_if_eq 28 21 dX1_partOf_18 rfl rfl (fun _ => ?_) (fun _ => ?_)
  · refine I_iload_n 4 29 dX1_partOf_28 rfl rfl rfl ?_
    refine I_sub [(0, .ref x0), (1, .int x1), (2, .int x2), (4, .int s0)] [1, 2, 3, 0] rfl ?_
    exact I_X1_partOf_b29 hst x0 x1 x2 s0 x3
  · refine I_aload_n 1 22 dX1_partOf_21 rfl rfl rfl ?_
    refine I_getI 25 dX1_partOf_22 rfl cl2 (by decide) wfl_30 sameF_rfl (fun v22 => ?_)
    refine I_goto 29 dX1_partOf_25 rfl ?_
    refine I_sub [(0, .ref x0), (1, .int x1), (2, .int x2), (4, .int s0)] [1, 2, 3, 0] rfl ?_
    exact I_X1_partOf_b29 hst x0 x1 x2 s0 v22
def f_X1_partOf (t0 mi : Nat) (x0 : Nat) (x1 : Int32) (x2 : Int32) : Mo Int32 :=
    bnd (vc x0 2 (f_X1_allDays t0 mi x0)) fun v1 =>
    (if v1 = 0 then
    X1_partOf_b14 t0 mi x0 x1 x2 v1 (1 : Int32)
    else
    X1_partOf_b14 t0 mi x0 x1 x2 v1 (0 : Int32))
set_option maxRecDepth 20000 in
theorem I_X1_partOf {l : Launch} {g : GX} (hst : l.stackTraces = false) (x0 : Nat) (x1 : Int32) (x2 : Int32) : I l g M_X1_partOf cvI 0 [(0, .ref x0), (1, .int x1), (2, .int x2)] [] (f_X1_partOf (gt0 g) (gmi g) x0 x1 x2) := by
  unfold f_X1_partOf
  refine I_aload_n 0 1 dX1_partOf_0 rfl rfl rfl ?_
  refine I_callVi (As := []) (rest := []) 4 (C_X1_allDays hst x0) dX1_partOf_1 rfl cl2 rfl (by decide) (Nat.le_of_ble_eq_true rfl) wcd_585 win_44 wml_586 wim_587 wse_588 ⟨by decide, by decide, pd_X1_allDays⟩ (fun x hx => by cases hx) (fun v1 => ?_)
  refine I_istore_n 5 [(3, .int v1), (0, .ref x0), (1, .int x1), (2, .int x2)] dX1_partOf_4 rfl rfl (by decide) rfl ?_
  refine I_iload_n 0 6 dX1_partOf_5 rfl rfl rfl ?_
  refine I_if_ne 13 9 dX1_partOf_6 rfl rfl (fun _ => ?_) (fun _ => ?_)
  · refine I_iconst (1 : Int32) 10 dX1_partOf_9 rfl (by decide) ?_
    refine I_goto 14 dX1_partOf_10 rfl ?_
    refine I_sub [(0, .ref x0), (1, .int x1), (2, .int x2), (3, .int v1)] [1, 2, 3, 0] rfl ?_
    exact I_X1_partOf_b14 hst x0 x1 x2 v1 (1 : Int32)
  · refine I_iconst (0 : Int32) 14 dX1_partOf_13 rfl (by decide) ?_
    refine I_sub [(0, .ref x0), (1, .int x1), (2, .int x2), (3, .int v1)] [1, 2, 3, 0] rfl ?_
    exact I_X1_partOf_b14 hst x0 x1 x2 v1 (0 : Int32)
theorem C_X1_partOf {l : Launch} {g : GX} (hst : l.stackTraces = false) (x0 : Nat) (x1 : Int32) (x2 : Int32) : Cs l g M_X1_partOf cvI [.ref x0, .int x1, .int x2] (f_X1_partOf (gt0 g) (gmi g) x0 x1 x2) :=
  Cs_of_I [(0, .ref x0), (1, .int x1), (2, .int x2)] rfl (by decide) hst (Nat.le_of_ble_eq_true rfl) rfl (I_X1_partOf hst x0 x1 x2)
/-! LunchMarks.share(II)I -/
abbrev M_X5_share : MS := (yX5_share, cX5_share, 3, (some .int), [], 6, 82)
theorem pd_X5_share : (parseMethodDescriptor (mY M_X5_share).desc).map (fun d => d.parameters.length) = some 2 := by decide +kernel
def X5_share_b15 (t0 mi : Nat) : Mo Int32 :=
    thr "java/util/NoSuchElementException"
set_option maxRecDepth 20000 in
theorem I_X5_share_b15 {l : Launch} {g : GX} (hst : l.stackTraces = false) : I l g M_X5_share cvI 15 [] [] (X5_share_b15 (gt0 g) (gmi g)) := by
  unfold X5_share_b15
  exact I_throwX (rx := nseC) (by decide +kernel) (by decide +kernel) (by decide +kernel) (by decide +kernel) (k := 4) (names := thn) dX5_share_15 dX5_share_18 dX5_share_19 dX5_share_21 dX5_share_24 rfl rfl (by decide) (by decide) wcl_162 win_163 thN_167 tgN_167 rfl (by decide) (Nat.le_of_ble_eq_true rfl)
def f_X5_share (t0 mi : Nat) (x0 : Nat) (x1 : Int32) (x2 : Int32) : Mo Int32 :=
    (if x1 < 0 then
    X5_share_b15 t0 mi
    else
    bnd (gA' x0 6 2) fun v6 =>
    bnd (gI v6 2 1) fun v9 =>
    (if x1 < v9 then
    bnd (f_X5_isWithin t0 mi x2 (10000000 : Int32)) fun v28 =>
    (if v28 = 0 then
    thr "java/lang/IllegalArgumentException"
    else
    bnd (gA' x0 6 2) fun v45 =>
    bnd (vc v45 2 (f_X1_partOf t0 mi v45 x1 x2)) fun v50 =>
    rt v50)
    else
    X5_share_b15 t0 mi))
set_option maxRecDepth 20000 in
theorem I_X5_share {l : Launch} {g : GX} (hst : l.stackTraces = false) (x0 : Nat) (x1 : Int32) (x2 : Int32) : I l g M_X5_share cvI 0 [(0, .ref x0), (1, .int x1), (2, .int x2)] [] (f_X5_share (gt0 g) (gmi g) x0 x1 x2) := by
  unfold f_X5_share
  refine I_iload_n 1 1 dX5_share_0 rfl rfl rfl ?_
  refine I_if_lt 15 4 dX5_share_1 rfl rfl (fun _ => ?_) (fun _ => ?_)
  · refine I_sub [] [] rfl ?_
    exact I_X5_share_b15 hst
  · refine I_iload_n 1 5 dX5_share_4 rfl rfl rfl ?_
    refine I_aload_n 0 6 dX5_share_5 rfl rfl rfl ?_
    refine I_getA 9 dX5_share_6 rfl cl6 (by decide) wfl_48 sameF_rfl (fun v6 => ?_)
    refine I_getI 12 dX5_share_9 rfl cl2 (by decide) wfl_593 sameF_rfl (fun v9 => ?_)
    refine I_icmp_lt 25 15 dX5_share_12 rfl rfl (fun _ => ?_) (fun _ => ?_)
    · refine I_iload_n 2 26 dX5_share_25 rfl rfl rfl ?_
      refine I_ldc (v := 10000000) 28 dX5_share_26 rfl wcn_594 ?_
      refine I_callSi (As := [.int x2, .int (10000000 : Int32)]) (rest := []) 31 (C_X5_isWithin hst x2 (10000000 : Int32)) dX5_share_28 rfl rfl (by decide) (Nat.le_of_ble_eq_true rfl) wcd_80 win_81 wml_82 wst_83 ⟨by decide, by decide, pd_X5_isWithin⟩ (fun x hx => by cases hx) (fun v28 => ?_)
      refine I_if_ne 44 34 dX5_share_31 rfl rfl (fun _ => ?_) (fun _ => ?_)
      · exact I_throw (k := 5) (names := thn) dX5_share_34 dX5_share_37 dX5_share_38 dX5_share_40 dX5_share_43 rfl rfl (by decide) (by decide) wcl_403 win_404 thA_104 tgA_104 rfl (by decide) (Nat.le_of_ble_eq_true rfl)
      · refine I_aload_n 0 45 dX5_share_44 rfl rfl rfl ?_
        refine I_getA 48 dX5_share_45 rfl cl6 (by decide) wfl_48 sameF_rfl (fun v45 => ?_)
        refine I_iload_n 1 49 dX5_share_48 rfl rfl rfl ?_
        refine I_iload_n 2 50 dX5_share_49 rfl rfl rfl ?_
        refine I_callVi (As := [.int x1, .int x2]) (rest := []) 53 (C_X1_partOf hst v45 x1 x2) dX5_share_50 rfl cl2 rfl (by decide) (Nat.le_of_ble_eq_true rfl) wcd_595 win_44 wml_596 wim_597 wse_598 ⟨by decide, by decide, pd_X1_partOf⟩ (fun x hx => by cases hx) (fun v50 => ?_)
        exact I_iret dX5_share_53 rfl
    · refine I_sub [] [] rfl ?_
      exact I_X5_share_b15 hst
theorem C_X5_share {l : Launch} {g : GX} (hst : l.stackTraces = false) (x0 : Nat) (x1 : Int32) (x2 : Int32) : Cs l g M_X5_share cvI [.ref x0, .int x1, .int x2] (f_X5_share (gt0 g) (gmi g) x0 x1 x2) :=
  Cs_of_I [(0, .ref x0), (1, .int x1), (2, .int x2)] rfl (by decide) hst (Nat.le_of_ble_eq_true rfl) rfl (I_X5_share hst x0 x1 x2)
/-! LunchMarksLaw.share(LLunchMarks;II[J)I -/
abbrev M_L_share : MS := (yL_share, cL_share, 5, (some .int), tableOf [(0, 10, 13, 13), (0, 10, 17, 19)], 7, 104)
theorem pd_L_share : (parseMethodDescriptor (mY M_L_share).desc).map (fun d => d.parameters.length) = some 4 := by decide +kernel
def f_L_share (t0 mi : Nat) (x0 : Nat) (x1 : Int32) (x2 : Int32) (x3 : Nat) : Mo Int32 :=
    ctc (vc x0 6 (f_X5_share t0 mi x0 x1 x2)) (fun v5 =>
    bnd (stL x3 (0 : Int32) v5.toInt64) fun _ =>
    rt (0 : Int32)) (fun E =>
    (if E = "java/util/NoSuchElementException" then
    rt (1 : Int32)
    else
    (if E = "java/lang/IllegalArgumentException" then
    rt (2 : Int32)
    else
    flr)))
set_option maxRecDepth 20000 in
theorem I_L_share {l : Launch} {g : GX} (hst : l.stackTraces = false) (x0 : Nat) (x1 : Int32) (x2 : Int32) (x3 : Nat) : I l g M_L_share cvI 0 [(0, .ref x0), (1, .int x1), (2, .int x2), (3, .ref x3)] [] (f_L_share (gt0 g) (gmi g) x0 x1 x2 x3) := by
  unfold f_L_share
  refine I_aload_n 3 1 dL_share_0 rfl rfl rfl ?_
  refine I_iconst (0 : Int32) 2 dL_share_1 rfl (by decide) ?_
  refine I_aload_n 0 3 dL_share_2 rfl rfl rfl ?_
  refine I_iload_n 1 4 dL_share_3 rfl rfl rfl ?_
  refine I_iload_n 2 5 dL_share_4 rfl rfl rfl ?_
  refine I_callVc2 (As := [.int x1, .int x2]) (rest := [.int (0 : Int32), .ref x3]) 8 (C_X5_share hst x0 x1 x2) dL_share_5 rfl cl6 rfl (by decide) (Nat.le_of_ble_eq_true rfl) wcd_599 win_81 wml_600 wim_601 wse_602 ⟨by decide, by decide, pd_X5_share⟩ rfl (by decide) (by decide) (by decide) (by decide) wcl_198 wcl_409 (fun v5 => ?_) (fun q13 => ?_) (fun q17 => ?_)
  · refine I_i2l 9 dL_share_8 rfl ?_
    refine I_last 10 dL_share_9 rfl ?_
    refine I_goto 21 dL_share_10 rfl ?_
    refine I_iconst (0 : Int32) 22 dL_share_21 rfl (by decide) ?_
    exact I_iret dL_share_22 rfl
  · refine I_astore 15 [(4, .ref q13), (0, .ref x0), (1, .int x1), (2, .int x2), (3, .ref x3)] dL_share_13 rfl (by decide) rfl ?_
    refine I_iconst (1 : Int32) 16 dL_share_15 rfl (by decide) ?_
    exact I_iret dL_share_16 rfl
  · refine I_astore 19 [(4, .ref q17), (0, .ref x0), (1, .int x1), (2, .int x2), (3, .ref x3)] dL_share_17 rfl (by decide) rfl ?_
    refine I_iconst (2 : Int32) 20 dL_share_19 rfl (by decide) ?_
    exact I_iret dL_share_20 rfl
theorem C_L_share {l : Launch} {g : GX} (hst : l.stackTraces = false) (x0 : Nat) (x1 : Int32) (x2 : Int32) (x3 : Nat) : CsW l g M_L_share [(0, 10, 13, 13), (0, 10, 17, 19)] cvI [.ref x0, .int x1, .int x2, .ref x3] (f_L_share (gt0 g) (gmi g) x0 x1 x2 x3) :=
  CsW_of_I [(0, .ref x0), (1, .int x1), (2, .int x2), (3, .ref x3)] rfl (by decide) hst (Nat.le_of_ble_eq_true rfl) rfl (I_L_share hst x0 x1 x2 x3)
/-! LunchMarksModel.share(II)I -/
abbrev M_X6_share : MS := (yX6_share, cX6_share, 12, (some .int), [], 1, 20)
theorem pd_X6_share : (parseMethodDescriptor (mY M_X6_share).desc).map (fun d => d.parameters.length) = some 2 := by decide +kernel
def X6_share_b17 (t0 mi : Nat) (x0 : Nat) : Mo Int32 :=
    bnd (vc x0 7 (f_X6_fail t0 mi x0)) fun v18 =>
    rt v18
set_option maxRecDepth 20000 in
theorem I_X6_share_b17 {l : Launch} {g : GX} (hst : l.stackTraces = false) (x0 : Nat) : I l g M_X6_share cvI 17 [(0, .ref x0)] [] (X6_share_b17 (gt0 g) (gmi g) x0) := by
  unfold X6_share_b17
  refine I_aload_n 0 18 dX6_share_17 rfl rfl rfl ?_
  refine I_callVi (As := []) (rest := []) 21 (C_X6_fail hst x0) dX6_share_18 rfl cl7 rfl (by decide) (Nat.le_of_ble_eq_true rfl) wcd_204 win_200 wml_205 wim_206 wse_207 ⟨by decide, by decide, pd_X6_fail⟩ (fun x hx => by cases hx) (fun v18 => ?_)
  exact I_iret dX6_share_21 rfl
def X6_share_b32 (t0 mi : Nat) (x0 : Nat) : Mo Int32 :=
    bnd (pV x0 7 0 (.int (2 : Int32))) fun _ =>
    rt (0 : Int32)
set_option maxRecDepth 20000 in
theorem I_X6_share_b32 {l : Launch} {g : GX} (hst : l.stackTraces = false) (x0 : Nat) : I l g M_X6_share cvI 32 [(0, .ref x0)] [] (X6_share_b32 (gt0 g) (gmi g) x0) := by
  unfold X6_share_b32
  refine I_aload_n 0 33 dX6_share_32 rfl rfl rfl ?_
  refine I_iconst (2 : Int32) 34 dX6_share_33 rfl (by decide) ?_
  refine I_put 37 dX6_share_34 rfl cl7 (by decide) wfl_88 sameF_rfl rfl rfl rfl ?_
  refine I_iconst (0 : Int32) 38 dX6_share_37 rfl (by decide) ?_
  exact I_iret dX6_share_38 rfl
def X6_share_L44 (t0 mi : Nat) (x0 : Nat) (x1 : Int32) (x2 : Int32) (kx : Int32 → Mo Int32) : Nat → Int32 → Int32 → Mo Int32
  | 0, _, _ => flr
  | n + 1, x3, x4 =>
    bnd (gI x0 7 5) fun v47 =>
    (if v47 ≤ x4 then
    kx x3
    else
    bnd (gA' x0 7 12) fun v55 =>
    bnd (ldK 0 v55 x4) fun v60 =>
    (X6_share_L44 t0 mi x0 x1 x2 kx n) (x3 + v60) (x4 + 1))
set_option maxRecDepth 20000 in
theorem I_X6_share_L44 {l : Launch} {g : GX} (hst : l.stackTraces = false) (x0 : Nat) (x1 : Int32) (x2 : Int32) (kx : Int32 → Mo Int32) (hkx : ∀ (z3 : Int32), I l g M_X6_share cvI 69 [(0, .ref x0), (1, .int x1), (2, .int x2), (3, .int z3)] [] (kx z3)) : ∀ (n : Nat) (x3 : Int32) (x4 : Int32), I l g M_X6_share cvI 44 [(0, .ref x0), (1, .int x1), (2, .int x2), (3, .int x3), (4, .int x4)] [] (X6_share_L44 (gt0 g) (gmi g) x0 x1 x2 kx n x3 x4) := by
  intro n
  induction n with
  | zero => intro x3 x4; rw [X6_share_L44]; exact I_flr
  | succ n ih =>
    intro x3 x4; rw [X6_share_L44]
    refine I_iload 4 46 dX6_share_44 rfl rfl ?_
    refine I_aload_n 0 47 dX6_share_46 rfl rfl rfl ?_
    refine I_getI 50 dX6_share_47 rfl cl7 (by decide) wfl_584 sameF_rfl (fun v47 => ?_)
    refine I_icmp_ge 69 53 dX6_share_50 rfl rfl (fun _ => ?_) (fun _ => ?_)
    · refine I_sub [(0, .ref x0), (1, .int x1), (2, .int x2), (3, .int x3)] [0, 1, 2, 3] rfl ?_
      exact hkx x3
    · refine I_iload_n 3 54 dX6_share_53 rfl rfl rfl ?_
      refine I_aload_n 0 55 dX6_share_54 rfl rfl rfl ?_
      refine I_getA 58 dX6_share_55 rfl cl7 (by decide) wfl_58 sameF_rfl (fun v55 => ?_)
      refine I_iload 4 60 dX6_share_58 rfl rfl ?_
      refine I_iald 61 dX6_share_60 rfl (fun v60 => ?_)
      refine I_iadd 62 dX6_share_61 rfl ?_
      refine I_istore_n 63 [(3, .int (x3 + v60)), (0, .ref x0), (1, .int x1), (2, .int x2), (4, .int x4)] dX6_share_62 rfl rfl (by decide) rfl ?_
      refine I_iinc 66 (x4 + 1) [(4, .int (x4 + 1)), (3, .int (x3 + v60)), (0, .ref x0), (1, .int x1), (2, .int x2)] 4 dX6_share_63 rfl rfl rfl (by decide) rfl ?_
      refine I_goto 44 dX6_share_66 rfl ?_
      refine I_sub [(0, .ref x0), (1, .int x1), (2, .int x2), (3, .int (x3 + v60)), (4, .int (x4 + 1))] [2, 3, 4, 1, 0] rfl ?_
      exact ih (x3 + v60) (x4 + 1)
def X6_share_b125 (t0 mi : Nat) (kh96 : Int32 → Int32 → Mo Int32) (x0 : Nat) (x1 : Int32) (x2 : Int32) (x3 : Int32) (x4 : Int32) (x6 : Int32) (s0 : Int32) (s1 : Int64) (s2 : Int32) : Mo Int32 :=
    bnd (divL (s1 * s0.toInt64) x3.toInt64) fun v129 =>
    kh96 (s2 - v129.toInt32) (x6 + 1)
set_option maxRecDepth 20000 in
theorem I_X6_share_b125 {l : Launch} {g : GX} (hst : l.stackTraces = false) (x0 : Nat) (x1 : Int32) (x2 : Int32) (x3 : Int32) (x4 : Int32) (x6 : Int32) (s0 : Int32) (s1 : Int64) (s2 : Int32) (kh96 : Int32 → Int32 → Mo Int32) (hkh96 : ∀ (z5 : Int32) (z6 : Int32), I l g M_X6_share cvI 96 [(0, .ref x0), (1, .int x1), (2, .int x2), (3, .int x3), (4, .int x4), (5, .int z5), (6, .int z6)] [] (kh96 z5 z6)) : I l g M_X6_share cvI 125 [(0, .ref x0), (1, .int x1), (2, .int x2), (3, .int x3), (4, .int x4), (6, .int x6)] [.int s0, .long s1, .int s2] (X6_share_b125 (gt0 g) (gmi g) kh96 x0 x1 x2 x3 x4 x6 s0 s1 s2) := by
  unfold X6_share_b125
  refine I_i2l 126 dX6_share_125 rfl ?_
  refine I_lmul 127 dX6_share_126 rfl ?_
  refine I_iload_n 3 128 dX6_share_127 rfl rfl rfl ?_
  refine I_i2l 129 dX6_share_128 rfl ?_
  refine I_ldiv 130 dX6_share_129 rfl (fun v129 => ?_)
  refine I_l2i 131 dX6_share_130 rfl ?_
  refine I_isub 132 dX6_share_131 rfl ?_
  refine I_istore 134 [(5, .int (s2 - v129.toInt32)), (0, .ref x0), (1, .int x1), (2, .int x2), (3, .int x3), (4, .int x4), (6, .int x6)] dX6_share_132 rfl (by decide) rfl ?_
  refine I_iinc 137 (x6 + 1) [(6, .int (x6 + 1)), (5, .int (s2 - v129.toInt32)), (0, .ref x0), (1, .int x1), (2, .int x2), (3, .int x3), (4, .int x4)] 6 dX6_share_134 rfl rfl rfl (by decide) rfl ?_
  refine I_goto 96 dX6_share_137 rfl ?_
  refine I_sub [(0, .ref x0), (1, .int x1), (2, .int x2), (3, .int x3), (4, .int x4), (5, .int (s2 - v129.toInt32)), (6, .int (x6 + 1))] [2, 3, 4, 5, 6, 1, 0] rfl ?_
  exact hkh96 (s2 - v129.toInt32) (x6 + 1)
def X6_share_L96 (t0 mi : Nat) (x0 : Nat) (x1 : Int32) (x2 : Int32) (x3 : Int32) (x4 : Int32) (kx : Int32 → Mo Int32) : Nat → Int32 → Int32 → Mo Int32
  | 0, _, _ => flr
  | n + 1, x5, x6 =>
    bnd (gI x0 7 5) fun v99 =>
    (if v99 ≤ x6 then
    kx x5
    else
    (if x4 = 0 then
    bnd (gA' x0 7 12) fun v119 =>
    bnd (ldK 0 v119 x6) fun v124 =>
    X6_share_b125 t0 mi (X6_share_L96 t0 mi x0 x1 x2 x3 x4 kx n) x0 x1 x2 x3 x4 x6 v124 x2.toInt64 x5
    else
    X6_share_b125 t0 mi (X6_share_L96 t0 mi x0 x1 x2 x3 x4 kx n) x0 x1 x2 x3 x4 x6 (1 : Int32) x2.toInt64 x5))
set_option maxRecDepth 20000 in
theorem I_X6_share_L96 {l : Launch} {g : GX} (hst : l.stackTraces = false) (x0 : Nat) (x1 : Int32) (x2 : Int32) (x3 : Int32) (x4 : Int32) (kx : Int32 → Mo Int32) (hkx : ∀ (z5 : Int32), I l g M_X6_share cvI 140 [(0, .ref x0), (1, .int x1), (2, .int x2), (3, .int x3), (4, .int x4), (5, .int z5)] [] (kx z5)) : ∀ (n : Nat) (x5 : Int32) (x6 : Int32), I l g M_X6_share cvI 96 [(0, .ref x0), (1, .int x1), (2, .int x2), (3, .int x3), (4, .int x4), (5, .int x5), (6, .int x6)] [] (X6_share_L96 (gt0 g) (gmi g) x0 x1 x2 x3 x4 kx n x5 x6) := by
  intro n
  induction n with
  | zero => intro x5 x6; rw [X6_share_L96]; exact I_flr
  | succ n ih =>
    intro x5 x6; rw [X6_share_L96]
    refine I_iload 6 98 dX6_share_96 rfl rfl ?_
    refine I_aload_n 0 99 dX6_share_98 rfl rfl rfl ?_
    refine I_getI 102 dX6_share_99 rfl cl7 (by decide) wfl_584 sameF_rfl (fun v99 => ?_)
    refine I_icmp_ge 140 105 dX6_share_102 rfl rfl (fun _ => ?_) (fun _ => ?_)
    · refine I_sub [(0, .ref x0), (1, .int x1), (2, .int x2), (3, .int x3), (4, .int x4), (5, .int x5)] [0, 1, 2, 3, 4, 5] rfl ?_
      exact hkx x5
    · refine I_iload 5 107 dX6_share_105 rfl rfl ?_
      refine I_iload_n 2 108 dX6_share_107 rfl rfl rfl ?_
      refine I_i2l 109 dX6_share_108 rfl ?_
      refine I_iload 4 111 dX6_share_109 rfl rfl ?_
      refine I_if_eq 118 114 dX6_share_111 rfl rfl (fun _ => ?_) (fun _ => ?_)
      · refine I_aload_n 0 119 dX6_share_118 rfl rfl rfl ?_
        refine I_getA 122 dX6_share_119 rfl cl7 (by decide) wfl_58 sameF_rfl (fun v119 => ?_)
        refine I_iload 6 124 dX6_share_122 rfl rfl ?_
        refine I_iald 125 dX6_share_124 rfl (fun v124 => ?_)
        refine I_sub [(0, .ref x0), (1, .int x1), (2, .int x2), (3, .int x3), (4, .int x4), (6, .int x6)] [0, 1, 2, 3, 4, 6] rfl ?_
        exact I_X6_share_b125 hst x0 x1 x2 x3 x4 x6 v124 x2.toInt64 x5 _ ih
      · refine I_iconst (1 : Int32) 115 dX6_share_114 rfl (by decide) ?_
        refine I_goto 125 dX6_share_115 rfl ?_
        refine I_sub [(0, .ref x0), (1, .int x1), (2, .int x2), (3, .int x3), (4, .int x4), (6, .int x6)] [0, 1, 2, 3, 4, 6] rfl ?_
        exact I_X6_share_b125 hst x0 x1 x2 x3 x4 x6 (1 : Int32) x2.toInt64 x5 _ ih
def X6_share_b232 (t0 mi : Nat) (kh167 : Int32 → Int32 → Mo Int32) (x0 : Nat) (x1 : Int32) (x2 : Int32) (x3 : Int32) (x4 : Int32) (x5 : Int32) (x6 : Int64) (x8 : Int32) (x9 : Int32) : Mo Int32 :=
    kh167 x8 (x9 + 1)
set_option maxRecDepth 20000 in
theorem I_X6_share_b232 {l : Launch} {g : GX} (hst : l.stackTraces = false) (x0 : Nat) (x1 : Int32) (x2 : Int32) (x3 : Int32) (x4 : Int32) (x5 : Int32) (x6 : Int64) (x8 : Int32) (x9 : Int32) (kh167 : Int32 → Int32 → Mo Int32) (hkh167 : ∀ (z8 : Int32) (z9 : Int32), I l g M_X6_share cvI 167 [(0, .ref x0), (1, .int x1), (2, .int x2), (3, .int x3), (4, .int x4), (5, .int x5), (6, .long x6), (8, .int z8), (9, .int z9)] [] (kh167 z8 z9)) : I l g M_X6_share cvI 232 [(0, .ref x0), (1, .int x1), (2, .int x2), (3, .int x3), (4, .int x4), (5, .int x5), (6, .long x6), (8, .int x8), (9, .int x9)] [] (X6_share_b232 (gt0 g) (gmi g) kh167 x0 x1 x2 x3 x4 x5 x6 x8 x9) := by
  unfold X6_share_b232
  refine I_iinc 235 (x9 + 1) [(9, .int (x9 + 1)), (0, .ref x0), (1, .int x1), (2, .int x2), (3, .int x3), (4, .int x4), (5, .int x5), (6, .long x6), (8, .int x8)] 8 dX6_share_232 rfl rfl rfl (by decide) rfl ?_
  refine I_goto 167 dX6_share_235 rfl ?_
  refine I_sub [(0, .ref x0), (1, .int x1), (2, .int x2), (3, .int x3), (4, .int x4), (5, .int x5), (6, .long x6), (8, .int x8), (9, .int (x9 + 1))] [1, 2, 3, 4, 5, 6, 7, 8, 0] rfl ?_
  exact hkh167 x8 (x9 + 1)
def X6_share_b229 (t0 mi : Nat) (kh167 : Int32 → Int32 → Mo Int32) (x0 : Nat) (x1 : Int32) (x2 : Int32) (x3 : Int32) (x4 : Int32) (x5 : Int32) (x6 : Int64) (x8 : Int32) (x9 : Int32) : Mo Int32 :=
    X6_share_b232 t0 mi kh167 x0 x1 x2 x3 x4 x5 x6 (x8 + 1) x9
set_option maxRecDepth 20000 in
theorem I_X6_share_b229 {l : Launch} {g : GX} (hst : l.stackTraces = false) (x0 : Nat) (x1 : Int32) (x2 : Int32) (x3 : Int32) (x4 : Int32) (x5 : Int32) (x6 : Int64) (x8 : Int32) (x9 : Int32) (kh167 : Int32 → Int32 → Mo Int32) (hkh167 : ∀ (z8 : Int32) (z9 : Int32), I l g M_X6_share cvI 167 [(0, .ref x0), (1, .int x1), (2, .int x2), (3, .int x3), (4, .int x4), (5, .int x5), (6, .long x6), (8, .int z8), (9, .int z9)] [] (kh167 z8 z9)) : I l g M_X6_share cvI 229 [(0, .ref x0), (1, .int x1), (2, .int x2), (3, .int x3), (4, .int x4), (5, .int x5), (6, .long x6), (8, .int x8), (9, .int x9)] [] (X6_share_b229 (gt0 g) (gmi g) kh167 x0 x1 x2 x3 x4 x5 x6 x8 x9) := by
  unfold X6_share_b229
  refine I_iinc 232 (x8 + 1) [(8, .int (x8 + 1)), (0, .ref x0), (1, .int x1), (2, .int x2), (3, .int x3), (4, .int x4), (5, .int x5), (6, .long x6), (9, .int x9)] 7 dX6_share_229 rfl rfl rfl (by decide) rfl ?_
  refine I_sub [(0, .ref x0), (1, .int x1), (2, .int x2), (3, .int x3), (4, .int x4), (5, .int x5), (6, .long x6), (8, .int (x8 + 1)), (9, .int x9)] [1, 2, 3, 4, 5, 6, 7, 0, 8] rfl ?_
  exact I_X6_share_b232 hst x0 x1 x2 x3 x4 x5 x6 (x8 + 1) x9 _ hkh167
def X6_share_b194 (t0 mi : Nat) (kh167 : Int32 → Int32 → Mo Int32) (x0 : Nat) (x1 : Int32) (x2 : Int32) (x3 : Int32) (x4 : Int32) (x5 : Int32) (x6 : Int64) (x8 : Int32) (x9 : Int32) (s0 : Int32) (s1 : Int64) : Mo Int32 :=
    bnd (remL (s1 * s0.toInt64) x3.toInt64) fun v198 =>
    bnd (remL x6 x3.toInt64) fun v207 =>
    (if 0 < (lg_cmp v198 v207) then
    X6_share_b229 t0 mi kh167 x0 x1 x2 x3 x4 x5 x6 x8 x9
    else
    bnd (remL x6 x3.toInt64) fun v218 =>
    (if (lg_cmp v198 v218) = 0 then
    (if x1 ≤ x9 then
    X6_share_b232 t0 mi kh167 x0 x1 x2 x3 x4 x5 x6 x8 x9
    else
    X6_share_b229 t0 mi kh167 x0 x1 x2 x3 x4 x5 x6 x8 x9)
    else
    X6_share_b232 t0 mi kh167 x0 x1 x2 x3 x4 x5 x6 x8 x9))
set_option maxRecDepth 20000 in
theorem I_X6_share_b194 {l : Launch} {g : GX} (hst : l.stackTraces = false) (x0 : Nat) (x1 : Int32) (x2 : Int32) (x3 : Int32) (x4 : Int32) (x5 : Int32) (x6 : Int64) (x8 : Int32) (x9 : Int32) (s0 : Int32) (s1 : Int64) (kh167 : Int32 → Int32 → Mo Int32) (hkh167 : ∀ (z8 : Int32) (z9 : Int32), I l g M_X6_share cvI 167 [(0, .ref x0), (1, .int x1), (2, .int x2), (3, .int x3), (4, .int x4), (5, .int x5), (6, .long x6), (8, .int z8), (9, .int z9)] [] (kh167 z8 z9)) : I l g M_X6_share cvI 194 [(0, .ref x0), (1, .int x1), (2, .int x2), (3, .int x3), (4, .int x4), (5, .int x5), (6, .long x6), (8, .int x8), (9, .int x9)] [.int s0, .long s1] (X6_share_b194 (gt0 g) (gmi g) kh167 x0 x1 x2 x3 x4 x5 x6 x8 x9 s0 s1) := by
  unfold X6_share_b194
  refine I_i2l 195 dX6_share_194 rfl ?_
  refine I_lmul 196 dX6_share_195 rfl ?_
  refine I_iload_n 3 197 dX6_share_196 rfl rfl rfl ?_
  refine I_i2l 198 dX6_share_197 rfl ?_
  refine I_lrem 199 dX6_share_198 rfl (fun v198 => ?_)
  refine I_lstore 201 [(10, .long v198), (0, .ref x0), (1, .int x1), (2, .int x2), (3, .int x3), (4, .int x4), (5, .int x5), (6, .long x6), (8, .int x8), (9, .int x9)] dX6_share_199 rfl (by decide) rfl ?_
  refine I_lload 0 203 dX6_share_201 rfl rfl ?_
  refine I_lload 7 205 dX6_share_203 rfl rfl ?_
  refine I_iload_n 4 206 dX6_share_205 rfl rfl rfl ?_
  refine I_i2l 207 dX6_share_206 rfl ?_
  refine I_lrem 208 dX6_share_207 rfl (fun v207 => ?_)
  refine I_lcmp 209 dX6_share_208 rfl ?_
  refine I_if_gt 229 212 dX6_share_209 rfl rfl (fun _ => ?_) (fun _ => ?_)
  · refine I_sub [(0, .ref x0), (1, .int x1), (2, .int x2), (3, .int x3), (4, .int x4), (5, .int x5), (6, .long x6), (8, .int x8), (9, .int x9)] [1, 2, 3, 4, 5, 6, 7, 8, 9] rfl ?_
    exact I_X6_share_b229 hst x0 x1 x2 x3 x4 x5 x6 x8 x9 _ hkh167
  · refine I_lload 0 214 dX6_share_212 rfl rfl ?_
    refine I_lload 7 216 dX6_share_214 rfl rfl ?_
    refine I_iload_n 4 217 dX6_share_216 rfl rfl rfl ?_
    refine I_i2l 218 dX6_share_217 rfl ?_
    refine I_lrem 219 dX6_share_218 rfl (fun v218 => ?_)
    refine I_lcmp 220 dX6_share_219 rfl ?_
    refine I_if_ne 232 223 dX6_share_220 rfl rfl (fun _ => ?_) (fun _ => ?_)
    · refine I_iload 9 225 dX6_share_223 rfl rfl ?_
      refine I_iload_n 2 226 dX6_share_225 rfl rfl rfl ?_
      refine I_icmp_ge 232 229 dX6_share_226 rfl rfl (fun _ => ?_) (fun _ => ?_)
      · refine I_sub [(0, .ref x0), (1, .int x1), (2, .int x2), (3, .int x3), (4, .int x4), (5, .int x5), (6, .long x6), (8, .int x8), (9, .int x9)] [1, 2, 3, 4, 5, 6, 7, 8, 9] rfl ?_
        exact I_X6_share_b232 hst x0 x1 x2 x3 x4 x5 x6 x8 x9 _ hkh167
      · refine I_sub [(0, .ref x0), (1, .int x1), (2, .int x2), (3, .int x3), (4, .int x4), (5, .int x5), (6, .long x6), (8, .int x8), (9, .int x9)] [1, 2, 3, 4, 5, 6, 7, 8, 9] rfl ?_
        exact I_X6_share_b229 hst x0 x1 x2 x3 x4 x5 x6 x8 x9 _ hkh167
    · refine I_sub [(0, .ref x0), (1, .int x1), (2, .int x2), (3, .int x3), (4, .int x4), (5, .int x5), (6, .long x6), (8, .int x8), (9, .int x9)] [1, 2, 3, 4, 5, 6, 7, 8, 9] rfl ?_
      exact I_X6_share_b232 hst x0 x1 x2 x3 x4 x5 x6 x8 x9 _ hkh167
def X6_share_L167 (t0 mi : Nat) (x0 : Nat) (x1 : Int32) (x2 : Int32) (x3 : Int32) (x4 : Int32) (x5 : Int32) (x6 : Int64) (kx : Int32 → Mo Int32) : Nat → Int32 → Int32 → Mo Int32
  | 0, _, _ => flr
  | n + 1, x8, x9 =>
    bnd (gI x0 7 5) fun v170 =>
    (if v170 ≤ x9 then
    kx x8
    else
    (if x4 = 0 then
    bnd (gA' x0 7 12) fun v188 =>
    bnd (ldK 0 v188 x9) fun v193 =>
    X6_share_b194 t0 mi (X6_share_L167 t0 mi x0 x1 x2 x3 x4 x5 x6 kx n) x0 x1 x2 x3 x4 x5 x6 x8 x9 v193 x2.toInt64
    else
    X6_share_b194 t0 mi (X6_share_L167 t0 mi x0 x1 x2 x3 x4 x5 x6 kx n) x0 x1 x2 x3 x4 x5 x6 x8 x9 (1 : Int32) x2.toInt64))
set_option maxRecDepth 20000 in
theorem I_X6_share_L167 {l : Launch} {g : GX} (hst : l.stackTraces = false) (x0 : Nat) (x1 : Int32) (x2 : Int32) (x3 : Int32) (x4 : Int32) (x5 : Int32) (x6 : Int64) (kx : Int32 → Mo Int32) (hkx : ∀ (z8 : Int32), I l g M_X6_share cvI 238 [(3, .int x3), (5, .int x5), (6, .long x6), (8, .int z8)] [] (kx z8)) : ∀ (n : Nat) (x8 : Int32) (x9 : Int32), I l g M_X6_share cvI 167 [(0, .ref x0), (1, .int x1), (2, .int x2), (3, .int x3), (4, .int x4), (5, .int x5), (6, .long x6), (8, .int x8), (9, .int x9)] [] (X6_share_L167 (gt0 g) (gmi g) x0 x1 x2 x3 x4 x5 x6 kx n x8 x9) := by
  intro n
  induction n with
  | zero => intro x8 x9; rw [X6_share_L167]; exact I_flr
  | succ n ih =>
    intro x8 x9; rw [X6_share_L167]
    refine I_iload 8 169 dX6_share_167 rfl rfl ?_
    refine I_aload_n 0 170 dX6_share_169 rfl rfl rfl ?_
    refine I_getI 173 dX6_share_170 rfl cl7 (by decide) wfl_584 sameF_rfl (fun v170 => ?_)
    refine I_icmp_ge 238 176 dX6_share_173 rfl rfl (fun _ => ?_) (fun _ => ?_)
    · refine I_sub [(3, .int x3), (5, .int x5), (6, .long x6), (8, .int x8)] [3, 5, 6, 7] rfl ?_
      exact hkx x8
    · refine I_iload_n 2 177 dX6_share_176 rfl rfl rfl ?_
      refine I_i2l 178 dX6_share_177 rfl ?_
      refine I_iload 4 180 dX6_share_178 rfl rfl ?_
      refine I_if_eq 187 183 dX6_share_180 rfl rfl (fun _ => ?_) (fun _ => ?_)
      · refine I_aload_n 0 188 dX6_share_187 rfl rfl rfl ?_
        refine I_getA 191 dX6_share_188 rfl cl7 (by decide) wfl_58 sameF_rfl (fun v188 => ?_)
        refine I_iload 8 193 dX6_share_191 rfl rfl ?_
        refine I_iald 194 dX6_share_193 rfl (fun v193 => ?_)
        refine I_sub [(0, .ref x0), (1, .int x1), (2, .int x2), (3, .int x3), (4, .int x4), (5, .int x5), (6, .long x6), (8, .int x8), (9, .int x9)] [0, 1, 2, 3, 4, 5, 6, 7, 8] rfl ?_
        exact I_X6_share_b194 hst x0 x1 x2 x3 x4 x5 x6 x8 x9 v193 x2.toInt64 _ ih
      · refine I_iconst (1 : Int32) 184 dX6_share_183 rfl (by decide) ?_
        refine I_goto 194 dX6_share_184 rfl ?_
        refine I_sub [(0, .ref x0), (1, .int x1), (2, .int x2), (3, .int x3), (4, .int x4), (5, .int x5), (6, .long x6), (8, .int x8), (9, .int x9)] [0, 1, 2, 3, 4, 5, 6, 7, 8] rfl ?_
        exact I_X6_share_b194 hst x0 x1 x2 x3 x4 x5 x6 x8 x9 (1 : Int32) x2.toInt64 _ ih
def X6_share_b256 (t0 mi : Nat) (s0 : Int32) (s1 : Int32) : Mo Int32 :=
    rt (s1 + s0)
set_option maxRecDepth 20000 in
theorem I_X6_share_b256 {l : Launch} {g : GX} (hst : l.stackTraces = false) (s0 : Int32) (s1 : Int32) : I l g M_X6_share cvI 256 [] [.int s0, .int s1] (X6_share_b256 (gt0 g) (gmi g) s0 s1) := by
  unfold X6_share_b256
  refine I_iadd 257 dX6_share_256 rfl ?_
  exact I_iret dX6_share_257 rfl
def X6_share_b157 (t0 mi : Nat) (x0 : Nat) (x1 : Int32) (x2 : Int32) (x3 : Int32) (x4 : Int32) (x5 : Int32) (s0 : Int32) (s1 : Int64) : Mo Int32 :=
    X6_share_L167 t0 mi x0 x1 x2 x3 x4 x5 (s1 * s0.toInt64) (fun y3_8 =>
    bnd (divL (s1 * s0.toInt64) x3.toInt64) fun v242 =>
    (if x5 ≤ y3_8 then
    X6_share_b256 t0 mi (0 : Int32) v242.toInt32
    else
    X6_share_b256 t0 mi (1 : Int32) v242.toInt32)) FU (0 : Int32) (0 : Int32)
set_option maxRecDepth 20000 in
theorem I_X6_share_b157 {l : Launch} {g : GX} (hst : l.stackTraces = false) (x0 : Nat) (x1 : Int32) (x2 : Int32) (x3 : Int32) (x4 : Int32) (x5 : Int32) (s0 : Int32) (s1 : Int64) : I l g M_X6_share cvI 157 [(0, .ref x0), (1, .int x1), (2, .int x2), (3, .int x3), (4, .int x4), (5, .int x5)] [.int s0, .long s1] (X6_share_b157 (gt0 g) (gmi g) x0 x1 x2 x3 x4 x5 s0 s1) := by
  unfold X6_share_b157
  refine I_i2l 158 dX6_share_157 rfl ?_
  refine I_lmul 159 dX6_share_158 rfl ?_
  refine I_lstore 161 [(6, .long (s1 * s0.toInt64)), (0, .ref x0), (1, .int x1), (2, .int x2), (3, .int x3), (4, .int x4), (5, .int x5)] dX6_share_159 rfl (by decide) rfl ?_
  refine I_iconst (0 : Int32) 162 dX6_share_161 rfl (by decide) ?_
  refine I_istore 164 [(8, .int (0 : Int32)), (6, .long (s1 * s0.toInt64)), (0, .ref x0), (1, .int x1), (2, .int x2), (3, .int x3), (4, .int x4), (5, .int x5)] dX6_share_162 rfl (by decide) rfl ?_
  refine I_iconst (0 : Int32) 165 dX6_share_164 rfl (by decide) ?_
  refine I_istore 167 [(9, .int (0 : Int32)), (8, .int (0 : Int32)), (6, .long (s1 * s0.toInt64)), (0, .ref x0), (1, .int x1), (2, .int x2), (3, .int x3), (4, .int x4), (5, .int x5)] dX6_share_165 rfl (by decide) rfl ?_
  refine I_sub [(0, .ref x0), (1, .int x1), (2, .int x2), (3, .int x3), (4, .int x4), (5, .int x5), (6, .long (s1 * s0.toInt64)), (8, .int (0 : Int32)), (9, .int (0 : Int32))] [3, 4, 5, 6, 7, 8, 2, 1, 0] rfl ?_
  refine I_X6_share_L167 hst x0 x1 x2 x3 x4 x5 (s1 * s0.toInt64) _ (fun y3_8 => ?_) FU (0 : Int32) (0 : Int32)
  refine I_lload 2 240 dX6_share_238 rfl rfl ?_
  refine I_iload_n 0 241 dX6_share_240 rfl rfl rfl ?_
  refine I_i2l 242 dX6_share_241 rfl ?_
  refine I_ldiv 243 dX6_share_242 rfl (fun v242 => ?_)
  refine I_l2i 244 dX6_share_243 rfl ?_
  refine I_iload 3 246 dX6_share_244 rfl rfl ?_
  refine I_iload 1 248 dX6_share_246 rfl rfl ?_
  refine I_icmp_ge 255 251 dX6_share_248 rfl rfl (fun _ => ?_) (fun _ => ?_)
  · refine I_iconst (0 : Int32) 256 dX6_share_255 rfl (by decide) ?_
    refine I_sub [] [] rfl ?_
    exact I_X6_share_b256 hst (0 : Int32) v242.toInt32
  · refine I_iconst (1 : Int32) 252 dX6_share_251 rfl (by decide) ?_
    refine I_goto 256 dX6_share_252 rfl ?_
    refine I_sub [] [] rfl ?_
    exact I_X6_share_b256 hst (1 : Int32) v242.toInt32
def X6_share_b90 (t0 mi : Nat) (x0 : Nat) (x1 : Int32) (x2 : Int32) (x3 : Int32) (x4 : Int32) : Mo Int32 :=
    X6_share_L96 t0 mi x0 x1 x2 x3 x4 (fun y2_5 =>
    (if x4 = 0 then
    bnd (gA' x0 7 12) fun v152 =>
    bnd (ldK 0 v152 x1) fun v156 =>
    X6_share_b157 t0 mi x0 x1 x2 x3 x4 y2_5 v156 x2.toInt64
    else
    X6_share_b157 t0 mi x0 x1 x2 x3 x4 y2_5 (1 : Int32) x2.toInt64)) FU x2 (0 : Int32)
set_option maxRecDepth 20000 in
theorem I_X6_share_b90 {l : Launch} {g : GX} (hst : l.stackTraces = false) (x0 : Nat) (x1 : Int32) (x2 : Int32) (x3 : Int32) (x4 : Int32) : I l g M_X6_share cvI 90 [(0, .ref x0), (1, .int x1), (2, .int x2), (3, .int x3), (4, .int x4)] [] (X6_share_b90 (gt0 g) (gmi g) x0 x1 x2 x3 x4) := by
  unfold X6_share_b90
  refine I_iload_n 2 91 dX6_share_90 rfl rfl rfl ?_
  refine I_istore 93 [(5, .int x2), (0, .ref x0), (1, .int x1), (2, .int x2), (3, .int x3), (4, .int x4)] dX6_share_91 rfl (by decide) rfl ?_
  refine I_iconst (0 : Int32) 94 dX6_share_93 rfl (by decide) ?_
  refine I_istore 96 [(6, .int (0 : Int32)), (5, .int x2), (0, .ref x0), (1, .int x1), (2, .int x2), (3, .int x3), (4, .int x4)] dX6_share_94 rfl (by decide) rfl ?_
  refine I_sub [(0, .ref x0), (1, .int x1), (2, .int x2), (3, .int x3), (4, .int x4), (5, .int x2), (6, .int (0 : Int32))] [2, 3, 4, 5, 6, 1, 0] rfl ?_
  refine I_X6_share_L96 hst x0 x1 x2 x3 x4 _ (fun y2_5 => ?_) FU x2 (0 : Int32)
  refine I_iload_n 2 141 dX6_share_140 rfl rfl rfl ?_
  refine I_i2l 142 dX6_share_141 rfl ?_
  refine I_iload 4 144 dX6_share_142 rfl rfl ?_
  refine I_if_eq 151 147 dX6_share_144 rfl rfl (fun _ => ?_) (fun _ => ?_)
  · refine I_aload_n 0 152 dX6_share_151 rfl rfl rfl ?_
    refine I_getA 155 dX6_share_152 rfl cl7 (by decide) wfl_58 sameF_rfl (fun v152 => ?_)
    refine I_iload_n 1 156 dX6_share_155 rfl rfl rfl ?_
    refine I_iald 157 dX6_share_156 rfl (fun v156 => ?_)
    refine I_sub [(0, .ref x0), (1, .int x1), (2, .int x2), (3, .int x3), (4, .int x4), (5, .int y2_5)] [0, 1, 2, 3, 4, 5] rfl ?_
    exact I_X6_share_b157 hst x0 x1 x2 x3 x4 y2_5 v156 x2.toInt64
  · refine I_iconst (1 : Int32) 148 dX6_share_147 rfl (by decide) ?_
    refine I_goto 157 dX6_share_148 rfl ?_
    refine I_sub [(0, .ref x0), (1, .int x1), (2, .int x2), (3, .int x3), (4, .int x4), (5, .int y2_5)] [0, 1, 2, 3, 4, 5] rfl ?_
    exact I_X6_share_b157 hst x0 x1 x2 x3 x4 y2_5 (1 : Int32) x2.toInt64
def X6_share_b78 (t0 mi : Nat) (x0 : Nat) (x1 : Int32) (x2 : Int32) (x3 : Int32) (s0 : Int32) : Mo Int32 :=
    (if s0 = 0 then
    X6_share_b90 t0 mi x0 x1 x2 x3 s0
    else
    bnd (gI x0 7 5) fun v86 =>
    X6_share_b90 t0 mi x0 x1 x2 v86 s0)
set_option maxRecDepth 20000 in
theorem I_X6_share_b78 {l : Launch} {g : GX} (hst : l.stackTraces = false) (x0 : Nat) (x1 : Int32) (x2 : Int32) (x3 : Int32) (s0 : Int32) : I l g M_X6_share cvI 78 [(0, .ref x0), (1, .int x1), (2, .int x2), (3, .int x3)] [.int s0] (X6_share_b78 (gt0 g) (gmi g) x0 x1 x2 x3 s0) := by
  unfold X6_share_b78
  refine I_istore 80 [(4, .int s0), (0, .ref x0), (1, .int x1), (2, .int x2), (3, .int x3)] dX6_share_78 rfl (by decide) rfl ?_
  refine I_iload 0 82 dX6_share_80 rfl rfl ?_
  refine I_if_eq 90 85 dX6_share_82 rfl rfl (fun _ => ?_) (fun _ => ?_)
  · refine I_sub [(0, .ref x0), (1, .int x1), (2, .int x2), (3, .int x3), (4, .int s0)] [1, 2, 3, 4, 0] rfl ?_
    exact I_X6_share_b90 hst x0 x1 x2 x3 s0
  · refine I_aload_n 1 86 dX6_share_85 rfl rfl rfl ?_
    refine I_getI 89 dX6_share_86 rfl cl7 (by decide) wfl_584 sameF_rfl (fun v86 => ?_)
    refine I_istore_n 90 [(3, .int v86), (4, .int s0), (0, .ref x0), (1, .int x1), (2, .int x2)] dX6_share_89 rfl rfl (by decide) rfl ?_
    refine I_sub [(0, .ref x0), (1, .int x1), (2, .int x2), (3, .int v86), (4, .int s0)] [2, 3, 4, 0, 1] rfl ?_
    exact I_X6_share_b90 hst x0 x1 x2 v86 s0
def f_X6_share (t0 mi : Nat) (x0 : Nat) (x1 : Int32) (x2 : Int32) : Mo Int32 :=
    bnd (pV x0 7 0 (.int (0 : Int32))) fun _ =>
    (if x1 < 0 then
    X6_share_b17 t0 mi x0
    else
    bnd (gI x0 7 5) fun v11 =>
    (if x1 < v11 then
    (if x2 < 0 then
    X6_share_b32 t0 mi x0
    else
    (if x2 ≤ (10000000 : Int32) then
    X6_share_L44 t0 mi x0 x1 x2 (fun y1_3 =>
    (if y1_3 = 0 then
    X6_share_b78 t0 mi x0 x1 x2 y1_3 (1 : Int32)
    else
    X6_share_b78 t0 mi x0 x1 x2 y1_3 (0 : Int32))) FU (0 : Int32) (0 : Int32)
    else
    X6_share_b32 t0 mi x0))
    else
    X6_share_b17 t0 mi x0))
set_option maxRecDepth 20000 in
theorem I_X6_share {l : Launch} {g : GX} (hst : l.stackTraces = false) (x0 : Nat) (x1 : Int32) (x2 : Int32) : I l g M_X6_share cvI 0 [(0, .ref x0), (1, .int x1), (2, .int x2)] [] (f_X6_share (gt0 g) (gmi g) x0 x1 x2) := by
  unfold f_X6_share
  refine I_aload_n 0 1 dX6_share_0 rfl rfl rfl ?_
  refine I_iconst (0 : Int32) 2 dX6_share_1 rfl (by decide) ?_
  refine I_put 5 dX6_share_2 rfl cl7 (by decide) wfl_88 sameF_rfl rfl rfl rfl ?_
  refine I_iload_n 1 6 dX6_share_5 rfl rfl rfl ?_
  refine I_if_lt 17 9 dX6_share_6 rfl rfl (fun _ => ?_) (fun _ => ?_)
  · refine I_sub [(0, .ref x0)] [0] rfl ?_
    exact I_X6_share_b17 hst x0
  · refine I_iload_n 1 10 dX6_share_9 rfl rfl rfl ?_
    refine I_aload_n 0 11 dX6_share_10 rfl rfl rfl ?_
    refine I_getI 14 dX6_share_11 rfl cl7 (by decide) wfl_584 sameF_rfl (fun v11 => ?_)
    refine I_icmp_lt 22 17 dX6_share_14 rfl rfl (fun _ => ?_) (fun _ => ?_)
    · refine I_iload_n 2 23 dX6_share_22 rfl rfl rfl ?_
      refine I_if_lt 32 26 dX6_share_23 rfl rfl (fun _ => ?_) (fun _ => ?_)
      · refine I_sub [(0, .ref x0)] [0] rfl ?_
        exact I_X6_share_b32 hst x0
      · refine I_iload_n 2 27 dX6_share_26 rfl rfl rfl ?_
        refine I_ldc (v := 10000000) 29 dX6_share_27 rfl wcn_603 ?_
        refine I_icmp_le 39 32 dX6_share_29 rfl rfl (fun _ => ?_) (fun _ => ?_)
        · refine I_iconst (0 : Int32) 40 dX6_share_39 rfl (by decide) ?_
          refine I_istore_n 41 [(3, .int (0 : Int32)), (0, .ref x0), (1, .int x1), (2, .int x2)] dX6_share_40 rfl rfl (by decide) rfl ?_
          refine I_iconst (0 : Int32) 42 dX6_share_41 rfl (by decide) ?_
          refine I_istore 44 [(4, .int (0 : Int32)), (3, .int (0 : Int32)), (0, .ref x0), (1, .int x1), (2, .int x2)] dX6_share_42 rfl (by decide) rfl ?_
          refine I_sub [(0, .ref x0), (1, .int x1), (2, .int x2), (3, .int (0 : Int32)), (4, .int (0 : Int32))] [2, 3, 4, 1, 0] rfl ?_
          refine I_X6_share_L44 hst x0 x1 x2 _ (fun y1_3 => ?_) FU (0 : Int32) (0 : Int32)
          refine I_iload_n 3 70 dX6_share_69 rfl rfl rfl ?_
          refine I_if_ne 77 73 dX6_share_70 rfl rfl (fun _ => ?_) (fun _ => ?_)
          · refine I_iconst (1 : Int32) 74 dX6_share_73 rfl (by decide) ?_
            refine I_goto 78 dX6_share_74 rfl ?_
            refine I_sub [(0, .ref x0), (1, .int x1), (2, .int x2), (3, .int y1_3)] [0, 1, 2, 3] rfl ?_
            exact I_X6_share_b78 hst x0 x1 x2 y1_3 (1 : Int32)
          · refine I_iconst (0 : Int32) 78 dX6_share_77 rfl (by decide) ?_
            refine I_sub [(0, .ref x0), (1, .int x1), (2, .int x2), (3, .int y1_3)] [0, 1, 2, 3] rfl ?_
            exact I_X6_share_b78 hst x0 x1 x2 y1_3 (0 : Int32)
        · refine I_sub [(0, .ref x0)] [0] rfl ?_
          exact I_X6_share_b32 hst x0
    · refine I_sub [(0, .ref x0)] [0] rfl ?_
      exact I_X6_share_b17 hst x0
theorem C_X6_share {l : Launch} {g : GX} (hst : l.stackTraces = false) (x0 : Nat) (x1 : Int32) (x2 : Int32) : Cs l g M_X6_share cvI [.ref x0, .int x1, .int x2] (f_X6_share (gt0 g) (gmi g) x0 x1 x2) :=
  Cs_of_I [(0, .ref x0), (1, .int x1), (2, .int x2)] rfl (by decide) hst (Nat.le_of_ble_eq_true rfl) rfl (I_X6_share hst x0 x1 x2)
