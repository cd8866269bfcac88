/-! LunchMarks.boxesWithWay()I -/
abbrev M_X5_boxesWithWay : MS := (yX5_boxesWithWay, cX5_boxesWithWay, 3, (some .int), [], 3, 64)
theorem pd_X5_boxesWithWay : (parseMethodDescriptor (mY M_X5_boxesWithWay).desc).map (fun d => d.parameters.length) = some 0 := by decide +kernel
def X5_boxesWithWay_b38 (t0 mi : Nat) (kh4 : Int32 → Int32 → Mo Int32) (x0 : Nat) (x1 : Int32) (x2 : Int32) : Mo Int32 :=
    kh4 x1 (x2 + 1)
set_option maxRecDepth 20000 in
theorem I_X5_boxesWithWay_b38 {l : Launch} {g : GX} (hst : l.stackTraces = false) (x0 : Nat) (x1 : Int32) (x2 : Int32) (kh4 : Int32 → Int32 → Mo Int32) (hkh4 : ∀ (z1 : Int32) (z2 : Int32), I l g M_X5_boxesWithWay cvI 4 [(0, .ref x0), (1, .int z1), (2, .int z2)] [] (kh4 z1 z2)) : I l g M_X5_boxesWithWay cvI 38 [(0, .ref x0), (1, .int x1), (2, .int x2)] [] (X5_boxesWithWay_b38 (gt0 g) (gmi g) kh4 x0 x1 x2) := by
  unfold X5_boxesWithWay_b38
  refine I_iinc 41 (x2 + 1) [(2, .int (x2 + 1)), (0, .ref x0), (1, .int x1)] 2 dX5_boxesWithWay_38 rfl rfl rfl (by decide) rfl ?_
  refine I_goto 4 dX5_boxesWithWay_41 rfl ?_
  refine I_sub [(0, .ref x0), (1, .int x1), (2, .int (x2 + 1))] [1, 2, 0] rfl ?_
  exact hkh4 x1 (x2 + 1)
def X5_boxesWithWay_L4 (t0 mi : Nat) (x0 : Nat) (kx : Int32 → Mo Int32) : Nat → Int32 → Int32 → Mo Int32
  | 0, _, _ => flr
  | n + 1, x1, x2 =>
    bnd (gA' x0 6 1) fun v6 =>
    bnd (vc v6 0 (f_Jx4a65c_size_8abf5 t0 mi v6)) fun v9 =>
    (if v9 ≤ x2 then
    kx x1
    else
    bnd (gA' x0 6 1) fun v16 =>
    bnd (vc v16 0 (f_Jx4a65c_get_915e3 t0 mi v16 x2)) fun v20 =>
    bnd (isC v20 1) fun _ =>
    bnd (vc v20 1 (f_X0_current t0 mi v20)) fun v26 =>
    bnd (vc v26 5 (f_X4_hasWay t0 mi v26)) fun v29 =>
    (if v29 = 0 then
    X5_boxesWithWay_b38 t0 mi (X5_boxesWithWay_L4 t0 mi x0 kx n) x0 x1 x2
    else
    X5_boxesWithWay_b38 t0 mi (X5_boxesWithWay_L4 t0 mi x0 kx n) x0 (x1 + 1) x2))
set_option maxRecDepth 20000 in
theorem I_X5_boxesWithWay_L4 {l : Launch} {g : GX} (hst : l.stackTraces = false) (x0 : Nat) (kx : Int32 → Mo Int32) (hkx : ∀ (z1 : Int32), I l g M_X5_boxesWithWay cvI 44 [(1, .int z1)] [] (kx z1)) : ∀ (n : Nat) (x1 : Int32) (x2 : Int32), I l g M_X5_boxesWithWay cvI 4 [(0, .ref x0), (1, .int x1), (2, .int x2)] [] (X5_boxesWithWay_L4 (gt0 g) (gmi g) x0 kx n x1 x2) := by
  intro n
  induction n with
  | zero => intro x1 x2; rw [X5_boxesWithWay_L4]; exact I_flr
  | succ n ih =>
    intro x1 x2; rw [X5_boxesWithWay_L4]
    refine I_iload_n 2 5 dX5_boxesWithWay_4 rfl rfl rfl ?_
    refine I_aload_n 0 6 dX5_boxesWithWay_5 rfl rfl rfl ?_
    refine I_getA 9 dX5_boxesWithWay_6 rfl cl6 (by decide) wfl_41 sameF_rfl (fun v6 => ?_)
    refine I_callVi (As := []) (rest := [.int x2]) 12 (C_Jx4a65c_size_8abf5 hst v6) dX5_boxesWithWay_9 rfl cl0 rfl (by decide) (Nat.le_of_ble_eq_true rfl) wcd_131 win_20 wml_165 wim_133 wse_134 ⟨by decide, by decide, pd_Jx4a65c_size_8abf5⟩ (fun x hx => by cases hx) (fun v9 => ?_)
    refine I_icmp_ge 44 15 dX5_boxesWithWay_12 rfl rfl (fun _ => ?_) (fun _ => ?_)
    · refine I_sub [(1, .int x1)] [1] rfl ?_
      exact hkx x1
    · refine I_aload_n 0 16 dX5_boxesWithWay_15 rfl rfl rfl ?_
      refine I_getA 19 dX5_boxesWithWay_16 rfl cl6 (by decide) wfl_41 sameF_rfl (fun v16 => ?_)
      refine I_iload_n 2 20 dX5_boxesWithWay_19 rfl rfl rfl ?_
      refine I_callVa (As := [.int x2]) (rest := []) 23 (C_Jx4a65c_get_915e3 hst v16 x2) dX5_boxesWithWay_20 rfl cl0 rfl (by decide) (Nat.le_of_ble_eq_true rfl) wcd_166 win_20 wml_167 wim_168 wse_169 ⟨by decide, by decide, pd_Jx4a65c_get_915e3⟩ (fun x hx => by cases hx) (fun v20 => ?_)
      refine I_cast 26 dX5_boxesWithWay_23 rfl cl1 wcl_228 ?_
      refine I_callVa (As := []) (rest := []) 29 (C_X0_current hst v20) dX5_boxesWithWay_26 rfl cl1 rfl (by decide) (Nat.le_of_ble_eq_true rfl) wcd_332 win_230 wml_333 wim_334 wse_335 ⟨by decide, by decide, pd_X0_current⟩ (fun x hx => by cases hx) (fun v26 => ?_)
      refine I_callVi (As := []) (rest := []) 32 (C_X4_hasWay hst v26) dX5_boxesWithWay_29 rfl cl5 rfl (by decide) (Nat.le_of_ble_eq_true rfl) wcd_454 win_233 wml_555 wim_456 wse_457 ⟨by decide, by decide, pd_X4_hasWay⟩ (fun x hx => by cases hx) (fun v29 => ?_)
      refine I_if_eq 38 35 dX5_boxesWithWay_32 rfl rfl (fun _ => ?_) (fun _ => ?_)
      · refine I_sub [(0, .ref x0), (1, .int x1), (2, .int x2)] [0, 1, 2] rfl ?_
        exact I_X5_boxesWithWay_b38 hst x0 x1 x2 _ ih
      · refine I_iinc 38 (x1 + 1) [(1, .int (x1 + 1)), (0, .ref x0), (2, .int x2)] 1 dX5_boxesWithWay_35 rfl rfl rfl (by decide) rfl ?_
        refine I_sub [(0, .ref x0), (1, .int (x1 + 1)), (2, .int x2)] [1, 0, 2] rfl ?_
        exact I_X5_boxesWithWay_b38 hst x0 (x1 + 1) x2 _ ih
def f_X5_boxesWithWay (t0 mi : Nat) (x0 : Nat) : Mo Int32 :=
    X5_boxesWithWay_L4 t0 mi x0 (fun y1_1 =>
    rt y1_1) FU (0 : Int32) (0 : Int32)
set_option maxRecDepth 20000 in
theorem I_X5_boxesWithWay {l : Launch} {g : GX} (hst : l.stackTraces = false) (x0 : Nat) : I l g M_X5_boxesWithWay cvI 0 [(0, .ref x0)] [] (f_X5_boxesWithWay (gt0 g) (gmi g) x0) := by
  unfold f_X5_boxesWithWay
  refine I_iconst (0 : Int32) 1 dX5_boxesWithWay_0 rfl (by decide) ?_
  refine I_istore_n 2 [(1, .int (0 : Int32)), (0, .ref x0)] dX5_boxesWithWay_1 rfl rfl (by decide) rfl ?_
  refine I_iconst (0 : Int32) 3 dX5_boxesWithWay_2 rfl (by decide) ?_
  refine I_istore_n 4 [(2, .int (0 : Int32)), (1, .int (0 : Int32)), (0, .ref x0)] dX5_boxesWithWay_3 rfl rfl (by decide) rfl ?_
  refine I_sub [(0, .ref x0), (1, .int (0 : Int32)), (2, .int (0 : Int32))] [2, 1, 0] rfl ?_
  refine I_X5_boxesWithWay_L4 hst x0 _ (fun y1_1 => ?_) FU (0 : Int32) (0 : Int32)
  refine I_iload_n 0 45 dX5_boxesWithWay_44 rfl rfl rfl ?_
  exact I_iret dX5_boxesWithWay_45 rfl
theorem C_X5_boxesWithWay {l : Launch} {g : GX} (hst : l.stackTraces = false) (x0 : Nat) : Cs l g M_X5_boxesWithWay cvI [.ref x0] (f_X5_boxesWithWay (gt0 g) (gmi g) x0) :=
  Cs_of_I [(0, .ref x0)] rfl (by decide) hst (Nat.le_of_ble_eq_true rfl) rfl (I_X5_boxesWithWay hst x0)
/-! LunchMarks.lateBoxes()I -/
abbrev M_X5_lateBoxes : MS := (yX5_lateBoxes, cX5_lateBoxes, 3, (some .int), [], 3, 64)
theorem pd_X5_lateBoxes : (parseMethodDescriptor (mY M_X5_lateBoxes).desc).map (fun d => d.parameters.length) = some 0 := by decide +kernel
def X5_lateBoxes_b38 (t0 mi : Nat) (kh4 : Int32 → Int32 → Mo Int32) (x0 : Nat) (x1 : Int32) (x2 : Int32) : Mo Int32 :=
    kh4 x1 (x2 + 1)
set_option maxRecDepth 20000 in
theorem I_X5_lateBoxes_b38 {l : Launch} {g : GX} (hst : l.stackTraces = false) (x0 : Nat) (x1 : Int32) (x2 : Int32) (kh4 : Int32 → Int32 → Mo Int32) (hkh4 : ∀ (z1 : Int32) (z2 : Int32), I l g M_X5_lateBoxes cvI 4 [(0, .ref x0), (1, .int z1), (2, .int z2)] [] (kh4 z1 z2)) : I l g M_X5_lateBoxes cvI 38 [(0, .ref x0), (1, .int x1), (2, .int x2)] [] (X5_lateBoxes_b38 (gt0 g) (gmi g) kh4 x0 x1 x2) := by
  unfold X5_lateBoxes_b38
  refine I_iinc 41 (x2 + 1) [(2, .int (x2 + 1)), (0, .ref x0), (1, .int x1)] 2 dX5_lateBoxes_38 rfl rfl rfl (by decide) rfl ?_
  refine I_goto 4 dX5_lateBoxes_41 rfl ?_
  refine I_sub [(0, .ref x0), (1, .int x1), (2, .int (x2 + 1))] [1, 2, 0] rfl ?_
  exact hkh4 x1 (x2 + 1)
def X5_lateBoxes_L4 (t0 mi : Nat) (x0 : Nat) (kx : Int32 → Mo Int32) : Nat → Int32 → Int32 → Mo Int32
  | 0, _, _ => flr
  | n + 1, x1, x2 =>
    bnd (gA' x0 6 1) fun v6 =>
    bnd (vc v6 0 (f_Jx4a65c_size_8abf5 t0 mi v6)) fun v9 =>
    (if v9 ≤ x2 then
    kx x1
    else
    bnd (gA' x0 6 1) fun v16 =>
    bnd (vc v16 0 (f_Jx4a65c_get_915e3 t0 mi v16 x2)) fun v20 =>
    bnd (isC v20 1) fun _ =>
    bnd (vc v20 1 (f_X0_current t0 mi v20)) fun v26 =>
    bnd (vc v26 5 (f_X4_isLate t0 mi v26)) fun v29 =>
    (if v29 = 0 then
    X5_lateBoxes_b38 t0 mi (X5_lateBoxes_L4 t0 mi x0 kx n) x0 x1 x2
    else
    X5_lateBoxes_b38 t0 mi (X5_lateBoxes_L4 t0 mi x0 kx n) x0 (x1 + 1) x2))
set_option maxRecDepth 20000 in
theorem I_X5_lateBoxes_L4 {l : Launch} {g : GX} (hst : l.stackTraces = false) (x0 : Nat) (kx : Int32 → Mo Int32) (hkx : ∀ (z1 : Int32), I l g M_X5_lateBoxes cvI 44 [(1, .int z1)] [] (kx z1)) : ∀ (n : Nat) (x1 : Int32) (x2 : Int32), I l g M_X5_lateBoxes cvI 4 [(0, .ref x0), (1, .int x1), (2, .int x2)] [] (X5_lateBoxes_L4 (gt0 g) (gmi g) x0 kx n x1 x2) := by
  intro n
  induction n with
  | zero => intro x1 x2; rw [X5_lateBoxes_L4]; exact I_flr
  | succ n ih =>
    intro x1 x2; rw [X5_lateBoxes_L4]
    refine I_iload_n 2 5 dX5_lateBoxes_4 rfl rfl rfl ?_
    refine I_aload_n 0 6 dX5_lateBoxes_5 rfl rfl rfl ?_
    refine I_getA 9 dX5_lateBoxes_6 rfl cl6 (by decide) wfl_41 sameF_rfl (fun v6 => ?_)
    refine I_callVi (As := []) (rest := [.int x2]) 12 (C_Jx4a65c_size_8abf5 hst v6) dX5_lateBoxes_9 rfl cl0 rfl (by decide) (Nat.le_of_ble_eq_true rfl) wcd_131 win_20 wml_165 wim_133 wse_134 ⟨by decide, by decide, pd_Jx4a65c_size_8abf5⟩ (fun x hx => by cases hx) (fun v9 => ?_)
    refine I_icmp_ge 44 15 dX5_lateBoxes_12 rfl rfl (fun _ => ?_) (fun _ => ?_)
    · refine I_sub [(1, .int x1)] [1] rfl ?_
      exact hkx x1
    · refine I_aload_n 0 16 dX5_lateBoxes_15 rfl rfl rfl ?_
      refine I_getA 19 dX5_lateBoxes_16 rfl cl6 (by decide) wfl_41 sameF_rfl (fun v16 => ?_)
      refine I_iload_n 2 20 dX5_lateBoxes_19 rfl rfl rfl ?_
      refine I_callVa (As := [.int x2]) (rest := []) 23 (C_Jx4a65c_get_915e3 hst v16 x2) dX5_lateBoxes_20 rfl cl0 rfl (by decide) (Nat.le_of_ble_eq_true rfl) wcd_166 win_20 wml_167 wim_168 wse_169 ⟨by decide, by decide, pd_Jx4a65c_get_915e3⟩ (fun x hx => by cases hx) (fun v20 => ?_)
      refine I_cast 26 dX5_lateBoxes_23 rfl cl1 wcl_228 ?_
      refine I_callVa (As := []) (rest := []) 29 (C_X0_current hst v20) dX5_lateBoxes_26 rfl cl1 rfl (by decide) (Nat.le_of_ble_eq_true rfl) wcd_332 win_230 wml_333 wim_334 wse_335 ⟨by decide, by decide, pd_X0_current⟩ (fun x hx => by cases hx) (fun v26 => ?_)
      refine I_callVi (As := []) (rest := []) 32 (C_X4_isLate hst v26) dX5_lateBoxes_29 rfl cl5 rfl (by decide) (Nat.le_of_ble_eq_true rfl) wcd_503 win_233 wml_504 wim_505 wse_506 ⟨by decide, by decide, pd_X4_isLate⟩ (fun x hx => by cases hx) (fun v29 => ?_)
      refine I_if_eq 38 35 dX5_lateBoxes_32 rfl rfl (fun _ => ?_) (fun _ => ?_)
      · refine I_sub [(0, .ref x0), (1, .int x1), (2, .int x2)] [0, 1, 2] rfl ?_
        exact I_X5_lateBoxes_b38 hst x0 x1 x2 _ ih
      · refine I_iinc 38 (x1 + 1) [(1, .int (x1 + 1)), (0, .ref x0), (2, .int x2)] 1 dX5_lateBoxes_35 rfl rfl rfl (by decide) rfl ?_
        refine I_sub [(0, .ref x0), (1, .int (x1 + 1)), (2, .int x2)] [1, 0, 2] rfl ?_
        exact I_X5_lateBoxes_b38 hst x0 (x1 + 1) x2 _ ih
def f_X5_lateBoxes (t0 mi : Nat) (x0 : Nat) : Mo Int32 :=
    X5_lateBoxes_L4 t0 mi x0 (fun y1_1 =>
    rt y1_1) FU (0 : Int32) (0 : Int32)
set_option maxRecDepth 20000 in
theorem I_X5_lateBoxes {l : Launch} {g : GX} (hst : l.stackTraces = false) (x0 : Nat) : I l g M_X5_lateBoxes cvI 0 [(0, .ref x0)] [] (f_X5_lateBoxes (gt0 g) (gmi g) x0) := by
  unfold f_X5_lateBoxes
  refine I_iconst (0 : Int32) 1 dX5_lateBoxes_0 rfl (by decide) ?_
  refine I_istore_n 2 [(1, .int (0 : Int32)), (0, .ref x0)] dX5_lateBoxes_1 rfl rfl (by decide) rfl ?_
  refine I_iconst (0 : Int32) 3 dX5_lateBoxes_2 rfl (by decide) ?_
  refine I_istore_n 4 [(2, .int (0 : Int32)), (1, .int (0 : Int32)), (0, .ref x0)] dX5_lateBoxes_3 rfl rfl (by decide) rfl ?_
  refine I_sub [(0, .ref x0), (1, .int (0 : Int32)), (2, .int (0 : Int32))] [2, 1, 0] rfl ?_
  refine I_X5_lateBoxes_L4 hst x0 _ (fun y1_1 => ?_) FU (0 : Int32) (0 : Int32)
  refine I_iload_n 0 45 dX5_lateBoxes_44 rfl rfl rfl ?_
  exact I_iret dX5_lateBoxes_45 rfl
theorem C_X5_lateBoxes {l : Launch} {g : GX} (hst : l.stackTraces = false) (x0 : Nat) : Cs l g M_X5_lateBoxes cvI [.ref x0] (f_X5_lateBoxes (gt0 g) (gmi g) x0) :=
  Cs_of_I [(0, .ref x0)] rfl (by decide) hst (Nat.le_of_ble_eq_true rfl) rfl (I_X5_lateBoxes hst x0)
/-! LunchMarks.count(I)I -/
abbrev M_X5_count : MS := (yX5_count, cX5_count, 2, (some .int), [], 6, 109)
theorem pd_X5_count : (parseMethodDescriptor (mY M_X5_count).desc).map (fun d => d.parameters.length) = some 1 := by decide +kernel
def f_X5_count (t0 mi : Nat) (x0 : Nat) (x1 : Int32) : Mo Int32 :=
    (if x1 = 0 then
    bnd (gA' x0 6 0) fun v49 =>
    bnd (gI v49 3 1) fun v52 =>
    rt v52
    else
    (if x1 = 1 then
    bnd (gA' x0 6 0) fun v57 =>
    bnd (gA' v57 3 2) fun v60 =>
    bnd (vc v60 0 (f_Jx4a65c_size_8abf5 t0 mi v60)) fun v63 =>
    rt v63
    else
    (if x1 = 2 then
    bnd (gA' x0 6 1) fun v68 =>
    bnd (vc v68 0 (f_Jx4a65c_size_8abf5 t0 mi v68)) fun v71 =>
    rt v71
    else
    (if x1 = 3 then
    bnd (gI x0 6 4) fun v76 =>
    rt v76
    else
    (if x1 = 4 then
    bnd (vc x0 6 (f_X5_boxesWithWay t0 mi x0)) fun v81 =>
    rt v81
    else
    (if x1 = 5 then
    bnd (vc x0 6 (f_X5_lateBoxes t0 mi x0)) fun v86 =>
    rt v86
    else
    (if x1 = 6 then
    bnd (vc x0 6 (f_X5_numberMarks t0 mi x0)) fun v91 =>
    rt v91
    else
    (if x1 = 7 then
    bnd (gA' x0 6 2) fun v96 =>
    bnd (gI v96 2 1) fun v99 =>
    rt v99
    else
    thr "java/util/NoSuchElementException"))))))))
set_option maxRecDepth 20000 in
theorem I_X5_count {l : Launch} {g : GX} (hst : l.stackTraces = false) (x0 : Nat) (x1 : Int32) : I l g M_X5_count cvI 0 [(0, .ref x0), (1, .int x1)] [] (f_X5_count (gt0 g) (gmi g) x0 x1) := by
  unfold f_X5_count
  refine I_iload_n 1 1 dX5_count_0 rfl rfl rfl ?_
  refine I_case (fun e0 => ?_) (fun e0 => ?_)
  · refine I_tableIn 48 dX5_count_1 (by rw [e0]; decide) (by rw [e0]; decide) (by rw [e0]; rfl) rfl ?_
    refine I_aload_n 0 49 dX5_count_48 rfl rfl rfl ?_
    refine I_getA 52 dX5_count_49 rfl cl6 (by decide) wfl_38 sameF_rfl (fun v49 => ?_)
    refine I_getI 55 dX5_count_52 rfl cl3 (by decide) wfl_604 sameF_rfl (fun v52 => ?_)
    exact I_iret dX5_count_55 rfl
  refine I_case (fun e1 => ?_) (fun e1 => ?_)
  · refine I_tableIn 56 dX5_count_1 (by rw [e1]; decide) (by rw [e1]; decide) (by rw [e1]; rfl) rfl ?_
    refine I_aload_n 0 57 dX5_count_56 rfl rfl rfl ?_
    refine I_getA 60 dX5_count_57 rfl cl6 (by decide) wfl_38 sameF_rfl (fun v57 => ?_)
    refine I_getA 63 dX5_count_60 rfl cl3 (by decide) wfl_164 sameF_rfl (fun v60 => ?_)
    refine I_callVi (As := []) (rest := []) 66 (C_Jx4a65c_size_8abf5 hst v60) dX5_count_63 rfl cl0 rfl (by decide) (Nat.le_of_ble_eq_true rfl) wcd_131 win_20 wml_165 wim_133 wse_134 ⟨by decide, by decide, pd_Jx4a65c_size_8abf5⟩ (fun x hx => by cases hx) (fun v63 => ?_)
    exact I_iret dX5_count_66 rfl
  refine I_case (fun e2 => ?_) (fun e2 => ?_)
  · refine I_tableIn 67 dX5_count_1 (by rw [e2]; decide) (by rw [e2]; decide) (by rw [e2]; rfl) rfl ?_
    refine I_aload_n 0 68 dX5_count_67 rfl rfl rfl ?_
    refine I_getA 71 dX5_count_68 rfl cl6 (by decide) wfl_41 sameF_rfl (fun v68 => ?_)
    refine I_callVi (As := []) (rest := []) 74 (C_Jx4a65c_size_8abf5 hst v68) dX5_count_71 rfl cl0 rfl (by decide) (Nat.le_of_ble_eq_true rfl) wcd_131 win_20 wml_165 wim_133 wse_134 ⟨by decide, by decide, pd_Jx4a65c_size_8abf5⟩ (fun x hx => by cases hx) (fun v71 => ?_)
    exact I_iret dX5_count_74 rfl
  refine I_case (fun e3 => ?_) (fun e3 => ?_)
  · refine I_tableIn 75 dX5_count_1 (by rw [e3]; decide) (by rw [e3]; decide) (by rw [e3]; rfl) rfl ?_
    refine I_aload_n 0 76 dX5_count_75 rfl rfl rfl ?_
    refine I_getI 79 dX5_count_76 rfl cl6 (by decide) wfl_50 sameF_rfl (fun v76 => ?_)
    exact I_iret dX5_count_79 rfl
  refine I_case (fun e4 => ?_) (fun e4 => ?_)
  · refine I_tableIn 80 dX5_count_1 (by rw [e4]; decide) (by rw [e4]; decide) (by rw [e4]; rfl) rfl ?_
    refine I_aload_n 0 81 dX5_count_80 rfl rfl rfl ?_
    refine I_callVi (As := []) (rest := []) 84 (C_X5_boxesWithWay hst x0) dX5_count_81 rfl cl6 rfl (by decide) (Nat.le_of_ble_eq_true rfl) wcd_605 win_81 wml_606 wim_607 wse_608 ⟨by decide, by decide, pd_X5_boxesWithWay⟩ (fun x hx => by cases hx) (fun v81 => ?_)
    exact I_iret dX5_count_84 rfl
  refine I_case (fun e5 => ?_) (fun e5 => ?_)
  · refine I_tableIn 85 dX5_count_1 (by rw [e5]; decide) (by rw [e5]; decide) (by rw [e5]; rfl) rfl ?_
    refine I_aload_n 0 86 dX5_count_85 rfl rfl rfl ?_
    refine I_callVi (As := []) (rest := []) 89 (C_X5_lateBoxes hst x0) dX5_count_86 rfl cl6 rfl (by decide) (Nat.le_of_ble_eq_true rfl) wcd_609 win_81 wml_610 wim_611 wse_612 ⟨by decide, by decide, pd_X5_lateBoxes⟩ (fun x hx => by cases hx) (fun v86 => ?_)
    exact I_iret dX5_count_89 rfl
  refine I_case (fun e6 => ?_) (fun e6 => ?_)
  · refine I_tableIn 90 dX5_count_1 (by rw [e6]; decide) (by rw [e6]; decide) (by rw [e6]; rfl) rfl ?_
    refine I_aload_n 0 91 dX5_count_90 rfl rfl rfl ?_
    refine I_callVi (As := []) (rest := []) 94 (C_X5_numberMarks hst x0) dX5_count_91 rfl cl6 rfl (by decide) (Nat.le_of_ble_eq_true rfl) wcd_560 win_81 wml_561 wim_562 wse_563 ⟨by decide, by decide, pd_X5_numberMarks⟩ (fun x hx => by cases hx) (fun v91 => ?_)
    exact I_iret dX5_count_94 rfl
  refine I_case (fun e7 => ?_) (fun e7 => ?_)
  · refine I_tableIn 95 dX5_count_1 (by rw [e7]; decide) (by rw [e7]; decide) (by rw [e7]; rfl) rfl ?_
    refine I_aload_n 0 96 dX5_count_95 rfl rfl rfl ?_
    refine I_getA 99 dX5_count_96 rfl cl6 (by decide) wfl_48 sameF_rfl (fun v96 => ?_)
    refine I_getI 102 dX5_count_99 rfl cl2 (by decide) wfl_593 sameF_rfl (fun v99 => ?_)
    exact I_iret dX5_count_102 rfl
  refine I_tableOut 103 dX5_count_1 (tsw_7 e0 e1 e2 e3 e4 e5 e6 e7) rfl ?_
  exact I_throwX (rx := nseC) (by decide +kernel) (by decide +kernel) (by decide +kernel) (by decide +kernel) (k := 6) (names := thn) dX5_count_103 dX5_count_106 dX5_count_107 dX5_count_109 dX5_count_112 rfl rfl (by decide) (by decide) wcl_162 win_163 thN_167 tgN_167 rfl (by decide) (Nat.le_of_ble_eq_true rfl)
theorem C_X5_count {l : Launch} {g : GX} (hst : l.stackTraces = false) (x0 : Nat) (x1 : Int32) : Cs l g M_X5_count cvI [.ref x0, .int x1] (f_X5_count (gt0 g) (gmi g) x0 x1) :=
  Cs_of_I [(0, .ref x0), (1, .int x1)] rfl (by decide) hst (Nat.le_of_ble_eq_true rfl) rfl (I_X5_count hst x0 x1)
/-! LunchMarksLaw.count(LLunchMarks;I[J)I -/
abbrev M_L_count : MS := (yL_count, cL_count, 4, (some .int), tableOf [(0, 9, 12, 13)], 7, 130)
theorem pd_L_count : (parseMethodDescriptor (mY M_L_count).desc).map (fun d => d.parameters.length) = some 3 := by decide +kernel
def f_L_count (t0 mi : Nat) (x0 : Nat) (x1 : Int32) (x2 : Nat) : Mo Int32 :=
    ctc (vc x0 6 (f_X5_count t0 mi x0 x1)) (fun v4 =>
    bnd (stL x2 (0 : Int32) v4.toInt64) fun _ =>
    rt (0 : Int32)) (fun E =>
    (if E = "java/util/NoSuchElementException" then
    rt (1 : Int32)
    else
    flr))
set_option maxRecDepth 20000 in
theorem I_L_count {l : Launch} {g : GX} (hst : l.stackTraces = false) (x0 : Nat) (x1 : Int32) (x2 : Nat) : I l g M_L_count cvI 0 [(0, .ref x0), (1, .int x1), (2, .ref x2)] [] (f_L_count (gt0 g) (gmi g) x0 x1 x2) := by
  unfold f_L_count
  refine I_aload_n 2 1 dL_count_0 rfl rfl rfl ?_
  refine I_iconst (0 : Int32) 2 dL_count_1 rfl (by decide) ?_
  refine I_aload_n 0 3 dL_count_2 rfl rfl rfl ?_
  refine I_iload_n 1 4 dL_count_3 rfl rfl rfl ?_
  refine I_callVc1 (As := [.int x1]) (rest := [.int (0 : Int32), .ref x2]) 7 (C_X5_count hst x0 x1) dL_count_4 rfl cl6 rfl (by decide) (Nat.le_of_ble_eq_true rfl) wcd_613 win_81 wml_614 wim_615 wse_616 ⟨by decide, by decide, pd_X5_count⟩ rfl (by decide) (by decide) wcl_198 xc_N (fun v4 => ?_) (fun q12 => ?_)
  · refine I_i2l 8 dL_count_7 rfl ?_
    refine I_last 9 dL_count_8 rfl ?_
    refine I_goto 15 dL_count_9 rfl ?_
    refine I_iconst (0 : Int32) 16 dL_count_15 rfl (by decide) ?_
    exact I_iret dL_count_16 rfl
  · refine I_astore_n 13 [(3, .ref q12), (0, .ref x0), (1, .int x1), (2, .ref x2)] dL_count_12 rfl rfl (by decide) rfl ?_
    refine I_iconst (1 : Int32) 14 dL_count_13 rfl (by decide) ?_
    exact I_iret dL_count_14 rfl
theorem C_L_count {l : Launch} {g : GX} (hst : l.stackTraces = false) (x0 : Nat) (x1 : Int32) (x2 : Nat) : CsW l g M_L_count [(0, 9, 12, 13)] cvI [.ref x0, .int x1, .ref x2] (f_L_count (gt0 g) (gmi g) x0 x1 x2) :=
  CsW_of_I [(0, .ref x0), (1, .int x1), (2, .ref x2)] rfl (by decide) hst (Nat.le_of_ble_eq_true rfl) rfl (I_L_count hst x0 x1 x2)
/-! LunchMarksModel.count(I)I -/
abbrev M_X6_count : MS := (yX6_count, cX6_count, 5, (some .int), [], 5, 108)
theorem pd_X6_count : (parseMethodDescriptor (mY M_X6_count).desc).map (fun d => d.parameters.length) = some 1 := by decide +kernel
def X6_count_b58 (t0 mi : Nat) (kh12 : Int32 → Int32 → Int32 → Mo Int32) (x0 : Nat) (x1 : Int32) (x2 : Int32) (x4 : Int32) (s0 : Int32) (s1 : Int32) : Mo Int32 :=
    kh12 x2 (s1 + s0) (x4 + 1)
set_option maxRecDepth 20000 in
theorem I_X6_count_b58 {l : Launch} {g : GX} (hst : l.stackTraces = false) (x0 : Nat) (x1 : Int32) (x2 : Int32) (x4 : Int32) (s0 : Int32) (s1 : Int32) (kh12 : Int32 → Int32 → Int32 → Mo Int32) (hkh12 : ∀ (z2 : Int32) (z3 : Int32) (z4 : Int32), I l g M_X6_count cvI 12 [(0, .ref x0), (1, .int x1), (2, .int z2), (3, .int z3), (4, .int z4)] [] (kh12 z2 z3 z4)) : I l g M_X6_count cvI 58 [(0, .ref x0), (1, .int x1), (2, .int x2), (4, .int x4)] [.int s0, .int s1] (X6_count_b58 (gt0 g) (gmi g) kh12 x0 x1 x2 x4 s0 s1) := by
  unfold X6_count_b58
  refine I_iadd 59 dX6_count_58 rfl ?_
  refine I_istore_n 60 [(3, .int (s1 + s0)), (0, .ref x0), (1, .int x1), (2, .int x2), (4, .int x4)] dX6_count_59 rfl rfl (by decide) rfl ?_
  refine I_iinc 63 (x4 + 1) [(4, .int (x4 + 1)), (3, .int (s1 + s0)), (0, .ref x0), (1, .int x1), (2, .int x2)] 4 dX6_count_60 rfl rfl rfl (by decide) rfl ?_
  refine I_goto 12 dX6_count_63 rfl ?_
  refine I_sub [(0, .ref x0), (1, .int x1), (2, .int x2), (3, .int (s1 + s0)), (4, .int (x4 + 1))] [2, 3, 4, 1, 0] rfl ?_
  exact hkh12 x2 (s1 + s0) (x4 + 1)
def X6_count_b41 (t0 mi : Nat) (kh12 : Int32 → Int32 → Int32 → Mo Int32) (x0 : Nat) (x1 : Int32) (x3 : Int32) (x4 : Int32) (s0 : Int32) (s1 : Int32) : Mo Int32 :=
    bnd (vc x0 7 (f_X6_isLate t0 mi x0 x4)) fun v47 =>
    (if v47 = 0 then
    X6_count_b58 t0 mi kh12 x0 x1 (s1 + s0) x4 (0 : Int32) x3
    else
    X6_count_b58 t0 mi kh12 x0 x1 (s1 + s0) x4 (1 : Int32) x3)
set_option maxRecDepth 20000 in
theorem I_X6_count_b41 {l : Launch} {g : GX} (hst : l.stackTraces = false) (x0 : Nat) (x1 : Int32) (x3 : Int32) (x4 : Int32) (s0 : Int32) (s1 : Int32) (kh12 : Int32 → Int32 → Int32 → Mo Int32) (hkh12 : ∀ (z2 : Int32) (z3 : Int32) (z4 : Int32), I l g M_X6_count cvI 12 [(0, .ref x0), (1, .int x1), (2, .int z2), (3, .int z3), (4, .int z4)] [] (kh12 z2 z3 z4)) : I l g M_X6_count cvI 41 [(0, .ref x0), (1, .int x1), (3, .int x3), (4, .int x4)] [.int s0, .int s1] (X6_count_b41 (gt0 g) (gmi g) kh12 x0 x1 x3 x4 s0 s1) := by
  unfold X6_count_b41
  refine I_iadd 42 dX6_count_41 rfl ?_
  refine I_istore_n 43 [(2, .int (s1 + s0)), (0, .ref x0), (1, .int x1), (3, .int x3), (4, .int x4)] dX6_count_42 rfl rfl (by decide) rfl ?_
  refine I_iload_n 3 44 dX6_count_43 rfl rfl rfl ?_
  refine I_aload_n 1 45 dX6_count_44 rfl rfl rfl ?_
  refine I_iload 4 47 dX6_count_45 rfl rfl ?_
  refine I_callVi (As := [.int x4]) (rest := [.int x3]) 50 (C_X6_isLate hst x0 x4) dX6_count_47 rfl cl7 rfl (by decide) (Nat.le_of_ble_eq_true rfl) wcd_515 win_200 wml_516 wim_517 wse_518 ⟨by decide, by decide, pd_X6_isLate⟩ (fun x hx => by cases hx) (fun v47 => ?_)
  refine I_if_eq 57 53 dX6_count_50 rfl rfl (fun _ => ?_) (fun _ => ?_)
  · refine I_iconst (0 : Int32) 58 dX6_count_57 rfl (by decide) ?_
    refine I_sub [(0, .ref x0), (1, .int x1), (2, .int (s1 + s0)), (4, .int x4)] [1, 2, 0, 4] rfl ?_
    exact I_X6_count_b58 hst x0 x1 (s1 + s0) x4 (0 : Int32) x3 _ hkh12
  · refine I_iconst (1 : Int32) 54 dX6_count_53 rfl (by decide) ?_
    refine I_goto 58 dX6_count_54 rfl ?_
    refine I_sub [(0, .ref x0), (1, .int x1), (2, .int (s1 + s0)), (4, .int x4)] [1, 2, 0, 4] rfl ?_
    exact I_X6_count_b58 hst x0 x1 (s1 + s0) x4 (1 : Int32) x3 _ hkh12
def X6_count_L12 (t0 mi : Nat) (x0 : Nat) (x1 : Int32) (kx : Int32 → Int32 → Mo Int32) : Nat → Int32 → Int32 → Int32 → Mo Int32
  | 0, _, _, _ => flr
  | n + 1, x2, x3, x4 =>
    bnd (gI x0 7 4) fun v15 =>
    (if v15 ≤ x4 then
    kx x2 x3
    else
    bnd (gA' x0 7 23) fun v23 =>
    bnd (vc x0 7 (f_X6_wayOf t0 mi x0 x4)) fun v29 =>
    bnd (ldK 2 v23 v29) fun v32 =>
    (if v32 = 0 then
    X6_count_b41 t0 mi (X6_count_L12 t0 mi x0 x1 kx n) x0 x1 x3 x4 (0 : Int32) x2
    else
    X6_count_b41 t0 mi (X6_count_L12 t0 mi x0 x1 kx n) x0 x1 x3 x4 (1 : Int32) x2))
set_option maxRecDepth 20000 in
theorem I_X6_count_L12 {l : Launch} {g : GX} (hst : l.stackTraces = false) (x0 : Nat) (x1 : Int32) (kx : Int32 → Int32 → Mo Int32) (hkx : ∀ (z2 : Int32) (z3 : Int32), I l g M_X6_count cvI 66 [(0, .ref x0), (1, .int x1), (2, .int z2), (3, .int z3)] [] (kx z2 z3)) : ∀ (n : Nat) (x2 : Int32) (x3 : Int32) (x4 : Int32), I l g M_X6_count cvI 12 [(0, .ref x0), (1, .int x1), (2, .int x2), (3, .int x3), (4, .int x4)] [] (X6_count_L12 (gt0 g) (gmi g) x0 x1 kx n x2 x3 x4) := by
  intro n
  induction n with
  | zero => intro x2 x3 x4; rw [X6_count_L12]; exact I_flr
  | succ n ih =>
    intro x2 x3 x4; rw [X6_count_L12]
    refine I_iload 4 14 dX6_count_12 rfl rfl ?_
    refine I_aload_n 0 15 dX6_count_14 rfl rfl rfl ?_
    refine I_getI 18 dX6_count_15 rfl cl7 (by decide) wfl_241 sameF_rfl (fun v15 => ?_)
    refine I_icmp_ge 66 21 dX6_count_18 rfl rfl (fun _ => ?_) (fun _ => ?_)
    · refine I_sub [(0, .ref x0), (1, .int x1), (2, .int x2), (3, .int x3)] [0, 1, 2, 3] rfl ?_
      exact hkx x2 x3
    · refine I_iload_n 2 22 dX6_count_21 rfl rfl rfl ?_
      refine I_aload_n 0 23 dX6_count_22 rfl rfl rfl ?_
      refine I_getA 26 dX6_count_23 rfl cl7 (by decide) wfl_70 sameF_rfl (fun v23 => ?_)
      refine I_aload_n 0 27 dX6_count_26 rfl rfl rfl ?_
      refine I_iload 4 29 dX6_count_27 rfl rfl ?_
      refine I_callVi (As := [.int x4]) (rest := [.ref v23, .int x2]) 32 (C_X6_wayOf hst x0 x4) dX6_count_29 rfl cl7 rfl (by decide) (Nat.le_of_ble_eq_true rfl) wcd_362 win_200 wml_363 wim_364 wse_365 ⟨by decide, by decide, pd_X6_wayOf⟩ (fun x hx => by cases hx) (fun v29 => ?_)
      refine I_zald 33 dX6_count_32 rfl (fun v32 => ?_)
      refine I_if_eq 40 36 dX6_count_33 rfl rfl (fun _ => ?_) (fun _ => ?_)
      · refine I_iconst (0 : Int32) 41 dX6_count_40 rfl (by decide) ?_
        refine I_sub [(0, .ref x0), (1, .int x1), (3, .int x3), (4, .int x4)] [0, 1, 3, 4] rfl ?_
        exact I_X6_count_b41 hst x0 x1 x3 x4 (0 : Int32) x2 _ ih
      · refine I_iconst (1 : Int32) 37 dX6_count_36 rfl (by decide) ?_
        refine I_goto 41 dX6_count_37 rfl ?_
        refine I_sub [(0, .ref x0), (1, .int x1), (3, .int x3), (4, .int x4)] [0, 1, 3, 4] rfl ?_
        exact I_X6_count_b41 hst x0 x1 x3 x4 (1 : Int32) x2 _ ih
def f_X6_count (t0 mi : Nat) (x0 : Nat) (x1 : Int32) : Mo Int32 :=
    bnd (pV x0 7 0 (.int (0 : Int32))) fun _ =>
    X6_count_L12 t0 mi x0 x1 (fun y1_2 y1_3 =>
    (if x1 = 0 then
    bnd (gI x0 7 2) fun v113 =>
    rt v113
    else
    (if x1 = 1 then
    bnd (gI x0 7 3) fun v118 =>
    rt v118
    else
    (if x1 = 2 then
    bnd (gI x0 7 4) fun v123 =>
    rt v123
    else
    (if x1 = 3 then
    bnd (gI x0 7 1) fun v128 =>
    rt v128
    else
    (if x1 = 4 then
    rt y1_2
    else
    (if x1 = 5 then
    rt y1_3
    else
    (if x1 = 6 then
    bnd (gI x0 7 4) fun v138 =>
    bnd (vc x0 7 (f_X6_marksUpTo t0 mi x0 v138)) fun v141 =>
    rt v141
    else
    (if x1 = 7 then
    bnd (gI x0 7 5) fun v146 =>
    rt v146
    else
    bnd (vc x0 7 (f_X6_fail t0 mi x0)) fun v151 =>
    rt v151))))))))) FU (0 : Int32) (0 : Int32) (0 : Int32)
set_option maxRecDepth 20000 in
theorem I_X6_count {l : Launch} {g : GX} (hst : l.stackTraces = false) (x0 : Nat) (x1 : Int32) : I l g M_X6_count cvI 0 [(0, .ref x0), (1, .int x1)] [] (f_X6_count (gt0 g) (gmi g) x0 x1) := by
  unfold f_X6_count
  refine I_aload_n 0 1 dX6_count_0 rfl rfl rfl ?_
  refine I_iconst (0 : Int32) 2 dX6_count_1 rfl (by decide) ?_
  refine I_put 5 dX6_count_2 rfl cl7 (by decide) wfl_88 sameF_rfl rfl rfl rfl ?_
  refine I_iconst (0 : Int32) 6 dX6_count_5 rfl (by decide) ?_
  refine I_istore_n 7 [(2, .int (0 : Int32)), (0, .ref x0), (1, .int x1)] dX6_count_6 rfl rfl (by decide) rfl ?_
  refine I_iconst (0 : Int32) 8 dX6_count_7 rfl (by decide) ?_
  refine I_istore_n 9 [(3, .int (0 : Int32)), (2, .int (0 : Int32)), (0, .ref x0), (1, .int x1)] dX6_count_8 rfl rfl (by decide) rfl ?_
  refine I_iconst (0 : Int32) 10 dX6_count_9 rfl (by decide) ?_
  refine I_istore 12 [(4, .int (0 : Int32)), (3, .int (0 : Int32)), (2, .int (0 : Int32)), (0, .ref x0), (1, .int x1)] dX6_count_10 rfl (by decide) rfl ?_
  refine I_sub [(0, .ref x0), (1, .int x1), (2, .int (0 : Int32)), (3, .int (0 : Int32)), (4, .int (0 : Int32))] [3, 4, 2, 1, 0] rfl ?_
  refine I_X6_count_L12 hst x0 x1 _ (fun y1_2 y1_3 => ?_) FU (0 : Int32) (0 : Int32) (0 : Int32)
  refine I_iload_n 1 67 dX6_count_66 rfl rfl rfl ?_
  refine I_case (fun e0 => ?_) (fun e0 => ?_)
  · refine I_tableIn 112 dX6_count_67 (by rw [e0]; decide) (by rw [e0]; decide) (by rw [e0]; rfl) rfl ?_
    refine I_aload_n 0 113 dX6_count_112 rfl rfl rfl ?_
    refine I_getI 116 dX6_count_113 rfl cl7 (by decide) wfl_89 sameF_rfl (fun v113 => ?_)
    exact I_iret dX6_count_116 rfl
  refine I_case (fun e1 => ?_) (fun e1 => ?_)
  · refine I_tableIn 117 dX6_count_67 (by rw [e1]; decide) (by rw [e1]; decide) (by rw [e1]; rfl) rfl ?_
    refine I_aload_n 0 118 dX6_count_117 rfl rfl rfl ?_
    refine I_getI 121 dX6_count_118 rfl cl7 (by decide) wfl_149 sameF_rfl (fun v118 => ?_)
    exact I_iret dX6_count_121 rfl
  refine I_case (fun e2 => ?_) (fun e2 => ?_)
  · refine I_tableIn 122 dX6_count_67 (by rw [e2]; decide) (by rw [e2]; decide) (by rw [e2]; rfl) rfl ?_
    refine I_aload_n 0 123 dX6_count_122 rfl rfl rfl ?_
    refine I_getI 126 dX6_count_123 rfl cl7 (by decide) wfl_241 sameF_rfl (fun v123 => ?_)
    exact I_iret dX6_count_126 rfl
  refine I_case (fun e3 => ?_) (fun e3 => ?_)
  · refine I_tableIn 127 dX6_count_67 (by rw [e3]; decide) (by rw [e3]; decide) (by rw [e3]; rfl) rfl ?_
    refine I_aload_n 0 128 dX6_count_127 rfl rfl rfl ?_
    refine I_getI 131 dX6_count_128 rfl cl7 (by decide) wfl_393 sameF_rfl (fun v128 => ?_)
    exact I_iret dX6_count_131 rfl
  refine I_case (fun e4 => ?_) (fun e4 => ?_)
  · refine I_tableIn 132 dX6_count_67 (by rw [e4]; decide) (by rw [e4]; decide) (by rw [e4]; rfl) rfl ?_
    refine I_iload_n 2 133 dX6_count_132 rfl rfl rfl ?_
    exact I_iret dX6_count_133 rfl
  refine I_case (fun e5 => ?_) (fun e5 => ?_)
  · refine I_tableIn 134 dX6_count_67 (by rw [e5]; decide) (by rw [e5]; decide) (by rw [e5]; rfl) rfl ?_
    refine I_iload_n 3 135 dX6_count_134 rfl rfl rfl ?_
    exact I_iret dX6_count_135 rfl
  refine I_case (fun e6 => ?_) (fun e6 => ?_)
  · refine I_tableIn 136 dX6_count_67 (by rw [e6]; decide) (by rw [e6]; decide) (by rw [e6]; rfl) rfl ?_
    refine I_aload_n 0 137 dX6_count_136 rfl rfl rfl ?_
    refine I_aload_n 0 138 dX6_count_137 rfl rfl rfl ?_
    refine I_getI 141 dX6_count_138 rfl cl7 (by decide) wfl_241 sameF_rfl (fun v138 => ?_)
    refine I_callVi (As := [.int v138]) (rest := []) 144 (C_X6_marksUpTo hst x0 v138) dX6_count_141 rfl cl7 rfl (by decide) (Nat.le_of_ble_eq_true rfl) wcd_576 win_200 wml_577 wim_578 wse_579 ⟨by decide, by decide, pd_X6_marksUpTo⟩ (fun x hx => by cases hx) (fun v141 => ?_)
    exact I_iret dX6_count_144 rfl
  refine I_case (fun e7 => ?_) (fun e7 => ?_)
  · refine I_tableIn 145 dX6_count_67 (by rw [e7]; decide) (by rw [e7]; decide) (by rw [e7]; rfl) rfl ?_
    refine I_aload_n 0 146 dX6_count_145 rfl rfl rfl ?_
    refine I_getI 149 dX6_count_146 rfl cl7 (by decide) wfl_584 sameF_rfl (fun v146 => ?_)
    exact I_iret dX6_count_149 rfl
  refine I_tableOut 150 dX6_count_67 (tsw_7 e0 e1 e2 e3 e4 e5 e6 e7) rfl ?_
  refine I_aload_n 0 151 dX6_count_150 rfl rfl rfl ?_
  refine I_callVi (As := []) (rest := []) 154 (C_X6_fail hst x0) dX6_count_151 rfl cl7 rfl (by decide) (Nat.le_of_ble_eq_true rfl) wcd_204 win_200 wml_205 wim_206 wse_207 ⟨by decide, by decide, pd_X6_fail⟩ (fun x hx => by cases hx) (fun v151 => ?_)
  exact I_iret dX6_count_154 rfl
theorem C_X6_count {l : Launch} {g : GX} (hst : l.stackTraces = false) (x0 : Nat) (x1 : Int32) : Cs l g M_X6_count cvI [.ref x0, .int x1] (f_X6_count (gt0 g) (gmi g) x0 x1) :=
  Cs_of_I [(0, .ref x0), (1, .int x1)] rfl (by decide) hst (Nat.le_of_ble_eq_true rfl) rfl (I_X6_count hst x0 x1)
