/-! LunchMarksModel.lookLeg(IIII)V -/
abbrev M_X6_lookLeg : MS := (yX6_lookLeg, cX6_lookLeg, 8, none, [], 1, 21)
theorem pd_X6_lookLeg : (parseMethodDescriptor (mY M_X6_lookLeg).desc).map (fun d => d.parameters.length) = some 4 := by decide +kernel
def X6_lookLeg_b70 (t0 mi : Nat) : Mo Unit :=
    rt ()
set_option maxRecDepth 20000 in
theorem I_X6_lookLeg_b70 {l : Launch} {g : GX} (hst : l.stackTraces = false) : I l g M_X6_lookLeg cvU 70 [] [] (X6_lookLeg_b70 (gt0 g) (gmi g)) := by
  unfold X6_lookLeg_b70
  exact I_vret dX6_lookLeg_70 rfl
def X6_lookLeg_b71 (t0 mi : Nat) (x0 : Nat) (x2 : Int32) (x3 : Int32) (x4 : Int32) (x6 : Int32) (x7 : Int32) : Mo Unit :=
    bnd (pV x0 7 32 (.int x6)) fun _ =>
    bnd (pV x0 7 33 (.int x7)) fun _ =>
    bnd (pV x0 7 34 (.int x2)) fun _ =>
    bnd (pV x0 7 35 (.int x3)) fun _ =>
    bnd (pV x0 7 36 (.int x4)) fun _ =>
    rt ()
set_option maxRecDepth 20000 in
theorem I_X6_lookLeg_b71 {l : Launch} {g : GX} (hst : l.stackTraces = false) (x0 : Nat) (x2 : Int32) (x3 : Int32) (x4 : Int32) (x6 : Int32) (x7 : Int32) : I l g M_X6_lookLeg cvU 71 [(0, .ref x0), (2, .int x2), (3, .int x3), (4, .int x4), (6, .int x6), (7, .int x7)] [] (X6_lookLeg_b71 (gt0 g) (gmi g) x0 x2 x3 x4 x6 x7) := by
  unfold X6_lookLeg_b71
  refine I_aload_n 0 72 dX6_lookLeg_71 rfl rfl rfl ?_
  refine I_iload 4 74 dX6_lookLeg_72 rfl rfl ?_
  refine I_put 77 dX6_lookLeg_74 rfl cl7 (by decide) wfl_341 sameF_rfl rfl rfl rfl ?_
  refine I_aload_n 0 78 dX6_lookLeg_77 rfl rfl rfl ?_
  refine I_iload 5 80 dX6_lookLeg_78 rfl rfl ?_
  refine I_put 83 dX6_lookLeg_80 rfl cl7 (by decide) wfl_342 sameF_rfl rfl rfl rfl ?_
  refine I_aload_n 0 84 dX6_lookLeg_83 rfl rfl rfl ?_
  refine I_iload_n 1 85 dX6_lookLeg_84 rfl rfl rfl ?_
  refine I_put 88 dX6_lookLeg_85 rfl cl7 (by decide) wfl_343 sameF_rfl rfl rfl rfl ?_
  refine I_aload_n 0 89 dX6_lookLeg_88 rfl rfl rfl ?_
  refine I_iload_n 2 90 dX6_lookLeg_89 rfl rfl rfl ?_
  refine I_put 93 dX6_lookLeg_90 rfl cl7 (by decide) wfl_344 sameF_rfl rfl rfl rfl ?_
  refine I_aload_n 0 94 dX6_lookLeg_93 rfl rfl rfl ?_
  refine I_iload 3 96 dX6_lookLeg_94 rfl rfl ?_
  refine I_put 99 dX6_lookLeg_96 rfl cl7 (by decide) wfl_345 sameF_rfl rfl rfl rfl ?_
  exact I_vret dX6_lookLeg_99 rfl
def f_X6_lookLeg (t0 mi : Nat) (x0 : Nat) (x1 : Int32) (x2 : Int32) (x3 : Int32) (x4 : Int32) : Mo Unit :=
    bnd (f_X6_node t0 mi x2 x4) fun v10 =>
    bnd (gA' x0 7 30) fun v17 =>
    bnd (ldK 0 v17 (((160 : Int32) * (x1 - (1 : Int32))) + v10)) fun v22 =>
    bnd (gA' x0 7 31) fun v26 =>
    bnd (ldK 0 v26 (((160 : Int32) * (x1 - (1 : Int32))) + v10)) fun v31 =>
    (if (268435456 : Int32) ≤ v22 then
    X6_lookLeg_b70 t0 mi
    else
    bnd (gI x0 7 32) fun v46 =>
    (if v46 < v22 then
    X6_lookLeg_b70 t0 mi
    else
    bnd (gI x0 7 32) fun v55 =>
    (if v22 = v55 then
    bnd (gI x0 7 33) fun v64 =>
    (if (v31 + (1 : Int32)) < v64 then
    X6_lookLeg_b71 t0 mi x0 x2 x3 x4 v22 (v31 + (1 : Int32))
    else
    X6_lookLeg_b70 t0 mi)
    else
    X6_lookLeg_b71 t0 mi x0 x2 x3 x4 v22 (v31 + (1 : Int32)))))
set_option maxRecDepth 20000 in
theorem I_X6_lookLeg {l : Launch} {g : GX} (hst : l.stackTraces = false) (x0 : Nat) (x1 : Int32) (x2 : Int32) (x3 : Int32) (x4 : Int32) : I l g M_X6_lookLeg cvU 0 [(0, .ref x0), (1, .int x1), (2, .int x2), (3, .int x3), (4, .int x4)] [] (f_X6_lookLeg (gt0 g) (gmi g) x0 x1 x2 x3 x4) := by
  unfold f_X6_lookLeg
  refine I_sipush (160 : Int32) 3 dX6_lookLeg_0 rfl (by decide) ?_
  refine I_iload_n 1 4 dX6_lookLeg_3 rfl rfl rfl ?_
  refine I_iconst (1 : Int32) 5 dX6_lookLeg_4 rfl (by decide) ?_
  refine I_isub 6 dX6_lookLeg_5 rfl ?_
  refine I_imul 7 dX6_lookLeg_6 rfl ?_
  refine I_iload_n 2 8 dX6_lookLeg_7 rfl rfl rfl ?_
  refine I_iload 4 10 dX6_lookLeg_8 rfl rfl ?_
  refine I_callSi (As := [.int x2, .int x4]) (rest := [.int ((160 : Int32) * (x1 - (1 : Int32)))]) 13 (C_X6_node hst x2 x4) dX6_lookLeg_10 rfl rfl (by decide) (Nat.le_of_ble_eq_true rfl) wcd_208 win_200 wml_209 wst_210 ⟨by decide, by decide, pd_X6_node⟩ (fun x hx => by cases hx) (fun v10 => ?_)
  refine I_iadd 14 dX6_lookLeg_13 rfl ?_
  refine I_istore 16 [(5, .int (((160 : Int32) * (x1 - (1 : Int32))) + v10)), (0, .ref x0), (1, .int x1), (2, .int x2), (3, .int x3), (4, .int x4)] dX6_lookLeg_14 rfl (by decide) rfl ?_
  refine I_aload_n 1 17 dX6_lookLeg_16 rfl rfl rfl ?_
  refine I_getA 20 dX6_lookLeg_17 rfl cl7 (by decide) wfl_77 sameF_rfl (fun v17 => ?_)
  refine I_iload 0 22 dX6_lookLeg_20 rfl rfl ?_
  refine I_iald 23 dX6_lookLeg_22 rfl (fun v22 => ?_)
  refine I_istore 25 [(6, .int v22), (5, .int (((160 : Int32) * (x1 - (1 : Int32))) + v10)), (0, .ref x0), (1, .int x1), (2, .int x2), (3, .int x3), (4, .int x4)] dX6_lookLeg_23 rfl (by decide) rfl ?_
  refine I_aload_n 2 26 dX6_lookLeg_25 rfl rfl rfl ?_
  refine I_getA 29 dX6_lookLeg_26 rfl cl7 (by decide) wfl_78 sameF_rfl (fun v26 => ?_)
  refine I_iload 1 31 dX6_lookLeg_29 rfl rfl ?_
  refine I_iald 32 dX6_lookLeg_31 rfl (fun v31 => ?_)
  refine I_iconst (1 : Int32) 33 dX6_lookLeg_32 rfl (by decide) ?_
  refine I_iadd 34 dX6_lookLeg_33 rfl ?_
  refine I_istore 36 [(7, .int (v31 + (1 : Int32))), (6, .int v22), (5, .int (((160 : Int32) * (x1 - (1 : Int32))) + v10)), (0, .ref x0), (1, .int x1), (2, .int x2), (3, .int x3), (4, .int x4)] dX6_lookLeg_34 rfl (by decide) rfl ?_
  refine I_iload 1 38 dX6_lookLeg_36 rfl rfl ?_
  refine I_ldc (v := 268435456) 40 dX6_lookLeg_38 rfl wcn_340 ?_
  refine I_icmp_ge 70 43 dX6_lookLeg_40 rfl rfl (fun _ => ?_) (fun _ => ?_)
  · refine I_sub [] [] rfl ?_
    exact I_X6_lookLeg_b70 hst
  · refine I_iload 1 45 dX6_lookLeg_43 rfl rfl ?_
    refine I_aload_n 3 46 dX6_lookLeg_45 rfl rfl rfl ?_
    refine I_getI 49 dX6_lookLeg_46 rfl cl7 (by decide) wfl_341 sameF_rfl (fun v46 => ?_)
    refine I_icmp_gt 70 52 dX6_lookLeg_49 rfl rfl (fun _ => ?_) (fun _ => ?_)
    · refine I_sub [] [] rfl ?_
      exact I_X6_lookLeg_b70 hst
    · refine I_iload 1 54 dX6_lookLeg_52 rfl rfl ?_
      refine I_aload_n 3 55 dX6_lookLeg_54 rfl rfl rfl ?_
      refine I_getI 58 dX6_lookLeg_55 rfl cl7 (by decide) wfl_341 sameF_rfl (fun v55 => ?_)
      refine I_icmp_ne 71 61 dX6_lookLeg_58 rfl rfl (fun _ => ?_) (fun _ => ?_)
      · refine I_iload 0 63 dX6_lookLeg_61 rfl rfl ?_
        refine I_aload_n 3 64 dX6_lookLeg_63 rfl rfl rfl ?_
        refine I_getI 67 dX6_lookLeg_64 rfl cl7 (by decide) wfl_342 sameF_rfl (fun v64 => ?_)
        refine I_icmp_lt 71 70 dX6_lookLeg_67 rfl rfl (fun _ => ?_) (fun _ => ?_)
        · refine I_sub [(0, .ref x0), (2, .int x2), (3, .int x3), (4, .int x4), (6, .int v22), (7, .int (v31 + (1 : Int32)))] [3, 5, 6, 7, 1, 0] rfl ?_
          exact I_X6_lookLeg_b71 hst x0 x2 x3 x4 v22 (v31 + (1 : Int32))
        · refine I_sub [] [] rfl ?_
          exact I_X6_lookLeg_b70 hst
      · refine I_sub [(0, .ref x0), (2, .int x2), (3, .int x3), (4, .int x4), (6, .int v22), (7, .int (v31 + (1 : Int32)))] [3, 5, 6, 7, 1, 0] rfl ?_
        exact I_X6_lookLeg_b71 hst x0 x2 x3 x4 v22 (v31 + (1 : Int32))
theorem C_X6_lookLeg {l : Launch} {g : GX} (hst : l.stackTraces = false) (x0 : Nat) (x1 : Int32) (x2 : Int32) (x3 : Int32) (x4 : Int32) : Cs l g M_X6_lookLeg cvU [.ref x0, .int x1, .int x2, .int x3, .int x4] (f_X6_lookLeg (gt0 g) (gmi g) x0 x1 x2 x3 x4) :=
  Cs_of_I [(0, .ref x0), (1, .int x1), (2, .int x2), (3, .int x3), (4, .int x4)] rfl (by decide) hst (Nat.le_of_ble_eq_true rfl) rfl (I_X6_lookLeg hst x0 x1 x2 x3 x4)
/-! LunchMarksModel.look(IIII)V -/
abbrev M_X6_look : MS := (yX6_look, cX6_look, 8, none, [], 2, 48)
theorem pd_X6_look : (parseMethodDescriptor (mY M_X6_look).desc).map (fun d => d.parameters.length) = some 4 := by decide +kernel
def X6_look_L98 (t0 mi : Nat) (x0 : Nat) (x1 : Int32) (x2 : Int32) (x3 : Int32) (x5 : Int32) (x6 : Int32) (kx : Mo Unit) : Nat → Int32 → Mo Unit
  | 0, _ => flr
  | n + 1, x7 =>
    bnd (gA' x0 7 8) fun v101 =>
    bnd (ldK 0 v101 x5) fun v106 =>
    (if v106 ≤ x7 then
    kx
    else
    bnd (vc x0 7 (f_X6_isFree t0 mi x0 x5 (x7 - (1 : Int32)))) fun v117 =>
    (if v117 = 0 then
    kx
    else
    bnd (vc x0 7 (f_X6_lookLeg t0 mi x0 x1 x5 x6 x7)) fun _ =>
    (X6_look_L98 t0 mi x0 x1 x2 x3 x5 x6 kx n) (x7 + 1)))
set_option maxRecDepth 20000 in
theorem I_X6_look_L98 {l : Launch} {g : GX} (hst : l.stackTraces = false) (x0 : Nat) (x1 : Int32) (x2 : Int32) (x3 : Int32) (x5 : Int32) (x6 : Int32) (kx : Mo Unit) (hkx : I l g M_X6_look cvU 140 [(0, .ref x0), (1, .int x1), (2, .int x2), (3, .int x3), (5, .int x5), (6, .int x6)] [] kx) : ∀ (n : Nat) (x7 : Int32), I l g M_X6_look cvU 98 [(0, .ref x0), (1, .int x1), (2, .int x2), (3, .int x3), (5, .int x5), (6, .int x6), (7, .int x7)] [] (X6_look_L98 (gt0 g) (gmi g) x0 x1 x2 x3 x5 x6 kx n x7) := by
  intro n
  induction n with
  | zero => intro x7; rw [X6_look_L98]; exact I_flr
  | succ n ih =>
    intro x7; rw [X6_look_L98]
    refine I_iload 6 100 dX6_look_98 rfl rfl ?_
    refine I_aload_n 0 101 dX6_look_100 rfl rfl rfl ?_
    refine I_getA 104 dX6_look_101 rfl cl7 (by decide) wfl_54 sameF_rfl (fun v101 => ?_)
    refine I_iload 4 106 dX6_look_104 rfl rfl ?_
    refine I_iald 107 dX6_look_106 rfl (fun v106 => ?_)
    refine I_icmp_ge 140 110 dX6_look_107 rfl rfl (fun _ => ?_) (fun _ => ?_)
    · refine I_sub [(0, .ref x0), (1, .int x1), (2, .int x2), (3, .int x3), (5, .int x5), (6, .int x6)] [0, 1, 2, 3, 4, 5] rfl ?_
      exact hkx
    · refine I_aload_n 0 111 dX6_look_110 rfl rfl rfl ?_
      refine I_iload 4 113 dX6_look_111 rfl rfl ?_
      refine I_iload 6 115 dX6_look_113 rfl rfl ?_
      refine I_iconst (1 : Int32) 116 dX6_look_115 rfl (by decide) ?_
      refine I_isub 117 dX6_look_116 rfl ?_
      refine I_callVi (As := [.int x5, .int (x7 - (1 : Int32))]) (rest := []) 120 (C_X6_isFree hst x0 x5 (x7 - (1 : Int32))) dX6_look_117 rfl cl7 rfl (by decide) (Nat.le_of_ble_eq_true rfl) wcd_346 win_200 wml_347 wim_348 wse_349 ⟨by decide, by decide, pd_X6_isFree⟩ (fun x hx => by cases hx) (fun v117 => ?_)
      refine I_if_eq 140 123 dX6_look_120 rfl rfl (fun _ => ?_) (fun _ => ?_)
      · refine I_sub [(0, .ref x0), (1, .int x1), (2, .int x2), (3, .int x3), (5, .int x5), (6, .int x6)] [0, 1, 2, 3, 4, 5] rfl ?_
        exact hkx
      · refine I_aload_n 0 124 dX6_look_123 rfl rfl rfl ?_
        refine I_iload_n 1 125 dX6_look_124 rfl rfl rfl ?_
        refine I_iload 4 127 dX6_look_125 rfl rfl ?_
        refine I_iload 5 129 dX6_look_127 rfl rfl ?_
        refine I_iload 6 131 dX6_look_129 rfl rfl ?_
        refine I_callVv (As := [.int x1, .int x5, .int x6, .int x7]) (rest := []) 134 (C_X6_lookLeg hst x0 x1 x5 x6 x7) dX6_look_131 rfl cl7 rfl (by decide) (Nat.le_of_ble_eq_true rfl) wcd_350 win_200 wml_351 wim_352 wse_353 ⟨by decide, by decide, pd_X6_lookLeg⟩ (fun x hx => by cases hx) (fun _ => ?_)
        refine I_iinc 137 (x7 + 1) [(7, .int (x7 + 1)), (0, .ref x0), (1, .int x1), (2, .int x2), (3, .int x3), (5, .int x5), (6, .int x6)] 6 dX6_look_134 rfl rfl rfl (by decide) rfl ?_
        refine I_goto 98 dX6_look_137 rfl ?_
        refine I_sub [(0, .ref x0), (1, .int x1), (2, .int x2), (3, .int x3), (5, .int x5), (6, .int x6), (7, .int (x7 + 1))] [1, 2, 3, 4, 5, 6, 0] rfl ?_
        exact ih (x7 + 1)
def X6_look_b140 (t0 mi : Nat) (kh45 : Int32 → Mo Unit) (x0 : Nat) (x1 : Int32) (x2 : Int32) (x3 : Int32) (x5 : Int32) (x6 : Int32) : Mo Unit :=
    kh45 (x6 + 1)
set_option maxRecDepth 20000 in
theorem I_X6_look_b140 {l : Launch} {g : GX} (hst : l.stackTraces = false) (x0 : Nat) (x1 : Int32) (x2 : Int32) (x3 : Int32) (x5 : Int32) (x6 : Int32) (kh45 : Int32 → Mo Unit) (hkh45 : ∀ (z6 : Int32), I l g M_X6_look cvU 45 [(0, .ref x0), (1, .int x1), (2, .int x2), (3, .int x3), (5, .int x5), (6, .int z6)] [] (kh45 z6)) : I l g M_X6_look cvU 140 [(0, .ref x0), (1, .int x1), (2, .int x2), (3, .int x3), (5, .int x5), (6, .int x6)] [] (X6_look_b140 (gt0 g) (gmi g) kh45 x0 x1 x2 x3 x5 x6) := by
  unfold X6_look_b140
  refine I_iinc 143 (x6 + 1) [(6, .int (x6 + 1)), (0, .ref x0), (1, .int x1), (2, .int x2), (3, .int x3), (5, .int x5)] 5 dX6_look_140 rfl rfl rfl (by decide) rfl ?_
  refine I_goto 45 dX6_look_143 rfl ?_
  refine I_sub [(0, .ref x0), (1, .int x1), (2, .int x2), (3, .int x3), (5, .int x5), (6, .int (x6 + 1))] [1, 2, 3, 4, 5, 0] rfl ?_
  exact hkh45 (x6 + 1)
def X6_look_L45 (t0 mi : Nat) (x0 : Nat) (x1 : Int32) (x2 : Int32) (x3 : Int32) (x5 : Int32) (kx : Mo Unit) : Nat → Int32 → Mo Unit
  | 0, _ => flr
  | n + 1, x6 =>
    bnd (gA' x0 7 8) fun v48 =>
    bnd (ldK 0 v48 x5) fun v53 =>
    (if v53 ≤ x6 then
    kx
    else
    bnd (gA' x0 7 9) fun v58 =>
    bnd (f_X6_node t0 mi x5 x6) fun v65 =>
    bnd (ldK 0 v58 v65) fun v68 =>
    (if v68 = x2 then
    bnd (gA' x0 7 10) fun v74 =>
    bnd (f_X6_node t0 mi x5 x6) fun v81 =>
    bnd (ldK 0 v74 v81) fun v84 =>
    (if x3 ≤ v84 then
    X6_look_L98 t0 mi x0 x1 x2 x3 x5 x6 (X6_look_b140 t0 mi (X6_look_L45 t0 mi x0 x1 x2 x3 x5 kx n) x0 x1 x2 x3 x5 x6) FU (x6 + (1 : Int32))
    else
    X6_look_b140 t0 mi (X6_look_L45 t0 mi x0 x1 x2 x3 x5 kx n) x0 x1 x2 x3 x5 x6)
    else
    X6_look_b140 t0 mi (X6_look_L45 t0 mi x0 x1 x2 x3 x5 kx n) x0 x1 x2 x3 x5 x6))
set_option maxRecDepth 20000 in
theorem I_X6_look_L45 {l : Launch} {g : GX} (hst : l.stackTraces = false) (x0 : Nat) (x1 : Int32) (x2 : Int32) (x3 : Int32) (x5 : Int32) (kx : Mo Unit) (hkx : I l g M_X6_look cvU 146 [(0, .ref x0), (1, .int x1), (2, .int x2), (3, .int x3), (5, .int x5)] [] kx) : ∀ (n : Nat) (x6 : Int32), I l g M_X6_look cvU 45 [(0, .ref x0), (1, .int x1), (2, .int x2), (3, .int x3), (5, .int x5), (6, .int x6)] [] (X6_look_L45 (gt0 g) (gmi g) x0 x1 x2 x3 x5 kx n x6) := by
  intro n
  induction n with
  | zero => intro x6; rw [X6_look_L45]; exact I_flr
  | succ n ih =>
    intro x6; rw [X6_look_L45]
    refine I_iload 5 47 dX6_look_45 rfl rfl ?_
    refine I_aload_n 0 48 dX6_look_47 rfl rfl rfl ?_
    refine I_getA 51 dX6_look_48 rfl cl7 (by decide) wfl_54 sameF_rfl (fun v48 => ?_)
    refine I_iload 4 53 dX6_look_51 rfl rfl ?_
    refine I_iald 54 dX6_look_53 rfl (fun v53 => ?_)
    refine I_icmp_ge 146 57 dX6_look_54 rfl rfl (fun _ => ?_) (fun _ => ?_)
    · refine I_sub [(0, .ref x0), (1, .int x1), (2, .int x2), (3, .int x3), (5, .int x5)] [0, 1, 2, 3, 4] rfl ?_
      exact hkx
    · refine I_aload_n 0 58 dX6_look_57 rfl rfl rfl ?_
      refine I_getA 61 dX6_look_58 rfl cl7 (by decide) wfl_55 sameF_rfl (fun v58 => ?_)
      refine I_iload 4 63 dX6_look_61 rfl rfl ?_
      refine I_iload 5 65 dX6_look_63 rfl rfl ?_
      refine I_callSi (As := [.int x5, .int x6]) (rest := [.ref v58]) 68 (C_X6_node hst x5 x6) dX6_look_65 rfl rfl (by decide) (Nat.le_of_ble_eq_true rfl) wcd_208 win_200 wml_209 wst_210 ⟨by decide, by decide, pd_X6_node⟩ (fun x hx => by cases hx) (fun v65 => ?_)
      refine I_iald 69 dX6_look_68 rfl (fun v68 => ?_)
      refine I_iload_n 2 70 dX6_look_69 rfl rfl rfl ?_
      refine I_icmp_ne 140 73 dX6_look_70 rfl rfl (fun _ => ?_) (fun _ => ?_)
      · refine I_aload_n 0 74 dX6_look_73 rfl rfl rfl ?_
        refine I_getA 77 dX6_look_74 rfl cl7 (by decide) wfl_56 sameF_rfl (fun v74 => ?_)
        refine I_iload 4 79 dX6_look_77 rfl rfl ?_
        refine I_iload 5 81 dX6_look_79 rfl rfl ?_
        refine I_callSi (As := [.int x5, .int x6]) (rest := [.ref v74]) 84 (C_X6_node hst x5 x6) dX6_look_81 rfl rfl (by decide) (Nat.le_of_ble_eq_true rfl) wcd_208 win_200 wml_209 wst_210 ⟨by decide, by decide, pd_X6_node⟩ (fun x hx => by cases hx) (fun v81 => ?_)
        refine I_iald 85 dX6_look_84 rfl (fun v84 => ?_)
        refine I_iload_n 3 86 dX6_look_85 rfl rfl rfl ?_
        refine I_icmp_ge 92 89 dX6_look_86 rfl rfl (fun _ => ?_) (fun _ => ?_)
        · refine I_iload 5 94 dX6_look_92 rfl rfl ?_
          refine I_iconst (1 : Int32) 95 dX6_look_94 rfl (by decide) ?_
          refine I_iadd 96 dX6_look_95 rfl ?_
          refine I_istore 98 [(7, .int (x6 + (1 : Int32))), (0, .ref x0), (1, .int x1), (2, .int x2), (3, .int x3), (5, .int x5), (6, .int x6)] dX6_look_96 rfl (by decide) rfl ?_
          refine I_sub [(0, .ref x0), (1, .int x1), (2, .int x2), (3, .int x3), (5, .int x5), (6, .int x6), (7, .int (x6 + (1 : Int32)))] [1, 2, 3, 4, 5, 6, 0] rfl ?_
          refine I_X6_look_L98 hst x0 x1 x2 x3 x5 x6 _ ?_ FU (x6 + (1 : Int32))
          refine I_sub [(0, .ref x0), (1, .int x1), (2, .int x2), (3, .int x3), (5, .int x5), (6, .int x6)] [0, 1, 2, 3, 4, 5] rfl ?_
          exact I_X6_look_b140 hst x0 x1 x2 x3 x5 x6 _ ih
        · refine I_goto 140 dX6_look_89 rfl ?_
          refine I_sub [(0, .ref x0), (1, .int x1), (2, .int x2), (3, .int x3), (5, .int x5), (6, .int x6)] [0, 1, 2, 3, 4, 5] rfl ?_
          exact I_X6_look_b140 hst x0 x1 x2 x3 x5 x6 _ ih
      · refine I_sub [(0, .ref x0), (1, .int x1), (2, .int x2), (3, .int x3), (5, .int x5), (6, .int x6)] [0, 1, 2, 3, 4, 5] rfl ?_
        exact I_X6_look_b140 hst x0 x1 x2 x3 x5 x6 _ ih
def X6_look_L29 (t0 mi : Nat) (x0 : Nat) (x1 : Int32) (x2 : Int32) (x3 : Int32) (kx : Mo Unit) : Nat → Int32 → Mo Unit
  | 0, _ => flr
  | n + 1, x5 =>
    bnd (gI x0 7 3) fun v32 =>
    (if v32 ≤ x5 then
    kx
    else
    (if x1 ≤ 0 then
    kx
    else
    X6_look_L45 t0 mi x0 x1 x2 x3 x5 ((X6_look_L29 t0 mi x0 x1 x2 x3 kx n) (x5 + 1)) FU (0 : Int32)))
set_option maxRecDepth 20000 in
theorem I_X6_look_L29 {l : Launch} {g : GX} (hst : l.stackTraces = false) (x0 : Nat) (x1 : Int32) (x2 : Int32) (x3 : Int32) (kx : Mo Unit) (hkx : I l g M_X6_look cvU 152 [] [] kx) : ∀ (n : Nat) (x5 : Int32), I l g M_X6_look cvU 29 [(0, .ref x0), (1, .int x1), (2, .int x2), (3, .int x3), (5, .int x5)] [] (X6_look_L29 (gt0 g) (gmi g) x0 x1 x2 x3 kx n x5) := by
  intro n
  induction n with
  | zero => intro x5; rw [X6_look_L29]; exact I_flr
  | succ n ih =>
    intro x5; rw [X6_look_L29]
    refine I_iload 4 31 dX6_look_29 rfl rfl ?_
    refine I_aload_n 0 32 dX6_look_31 rfl rfl rfl ?_
    refine I_getI 35 dX6_look_32 rfl cl7 (by decide) wfl_149 sameF_rfl (fun v32 => ?_)
    refine I_icmp_ge 152 38 dX6_look_35 rfl rfl (fun _ => ?_) (fun _ => ?_)
    · refine I_sub [] [] rfl ?_
      exact hkx
    · refine I_iload_n 1 39 dX6_look_38 rfl rfl rfl ?_
      refine I_if_le 152 42 dX6_look_39 rfl rfl (fun _ => ?_) (fun _ => ?_)
      · refine I_sub [] [] rfl ?_
        exact hkx
      · refine I_iconst (0 : Int32) 43 dX6_look_42 rfl (by decide) ?_
        refine I_istore 45 [(6, .int (0 : Int32)), (0, .ref x0), (1, .int x1), (2, .int x2), (3, .int x3), (5, .int x5)] dX6_look_43 rfl (by decide) rfl ?_
        refine I_sub [(0, .ref x0), (1, .int x1), (2, .int x2), (3, .int x3), (5, .int x5), (6, .int (0 : Int32))] [1, 2, 3, 4, 5, 0] rfl ?_
        refine I_X6_look_L45 hst x0 x1 x2 x3 x5 _ ?_ FU (0 : Int32)
        refine I_iinc 149 (x5 + 1) [(5, .int (x5 + 1)), (0, .ref x0), (1, .int x1), (2, .int x2), (3, .int x3)] 4 dX6_look_146 rfl rfl rfl (by decide) rfl ?_
        refine I_goto 29 dX6_look_149 rfl ?_
        refine I_sub [(0, .ref x0), (1, .int x1), (2, .int x2), (3, .int x3), (5, .int (x5 + 1))] [1, 2, 3, 4, 0] rfl ?_
        exact ih (x5 + 1)
def X6_look_b13 (t0 mi : Nat) (x0 : Nat) (x1 : Int32) (x2 : Int32) (x3 : Int32) (s0 : Int32) (s1 : Nat) : Mo Unit :=
    bnd (pV s1 7 32 (.int s0)) fun _ =>
    bnd (pV x0 7 33 (.int (0 : Int32))) fun _ =>
    bnd (pV x0 7 34 (.int (-1 : Int32))) fun _ =>
    X6_look_L29 t0 mi x0 x1 x2 x3 (rt ()) FU (0 : Int32)
set_option maxRecDepth 20000 in
theorem I_X6_look_b13 {l : Launch} {g : GX} (hst : l.stackTraces = false) (x0 : Nat) (x1 : Int32) (x2 : Int32) (x3 : Int32) (s0 : Int32) (s1 : Nat) : I l g M_X6_look cvU 13 [(0, .ref x0), (1, .int x1), (2, .int x2), (3, .int x3)] [.int s0, .ref s1] (X6_look_b13 (gt0 g) (gmi g) x0 x1 x2 x3 s0 s1) := by
  unfold X6_look_b13
  refine I_put 16 dX6_look_13 rfl cl7 (by decide) wfl_341 sameF_rfl rfl rfl rfl ?_
  refine I_aload_n 0 17 dX6_look_16 rfl rfl rfl ?_
  refine I_iconst (0 : Int32) 18 dX6_look_17 rfl (by decide) ?_
  refine I_put 21 dX6_look_18 rfl cl7 (by decide) wfl_342 sameF_rfl rfl rfl rfl ?_
  refine I_aload_n 0 22 dX6_look_21 rfl rfl rfl ?_
  refine I_iconst (-1 : Int32) 23 dX6_look_22 rfl (by decide) ?_
  refine I_put 26 dX6_look_23 rfl cl7 (by decide) wfl_343 sameF_rfl rfl rfl rfl ?_
  refine I_iconst (0 : Int32) 27 dX6_look_26 rfl (by decide) ?_
  refine I_istore 29 [(5, .int (0 : Int32)), (0, .ref x0), (1, .int x1), (2, .int x2), (3, .int x3)] dX6_look_27 rfl (by decide) rfl ?_
  refine I_sub [(0, .ref x0), (1, .int x1), (2, .int x2), (3, .int x3), (5, .int (0 : Int32))] [1, 2, 3, 4, 0] rfl ?_
  refine I_X6_look_L29 hst x0 x1 x2 x3 _ ?_ FU (0 : Int32)
  exact I_vret dX6_look_152 rfl
def f_X6_look (t0 mi : Nat) (x0 : Nat) (x1 : Int32) (x2 : Int32) (x3 : Int32) (x4 : Int32) : Mo Unit :=
    (if x2 = x4 then
    X6_look_b13 t0 mi x0 x1 x2 x3 x3 x0
    else
    X6_look_b13 t0 mi x0 x1 x2 x3 (268435456 : Int32) x0)
set_option maxRecDepth 20000 in
theorem I_X6_look {l : Launch} {g : GX} (hst : l.stackTraces = false) (x0 : Nat) (x1 : Int32) (x2 : Int32) (x3 : Int32) (x4 : Int32) : I l g M_X6_look cvU 0 [(0, .ref x0), (1, .int x1), (2, .int x2), (3, .int x3), (4, .int x4)] [] (f_X6_look (gt0 g) (gmi g) x0 x1 x2 x3 x4) := by
  unfold f_X6_look
  refine I_aload_n 0 1 dX6_look_0 rfl rfl rfl ?_
  refine I_iload_n 2 2 dX6_look_1 rfl rfl rfl ?_
  refine I_iload 4 4 dX6_look_2 rfl rfl ?_
  refine I_icmp_ne 11 7 dX6_look_4 rfl rfl (fun _ => ?_) (fun _ => ?_)
  · refine I_iload_n 3 8 dX6_look_7 rfl rfl rfl ?_
    refine I_goto 13 dX6_look_8 rfl ?_
    refine I_sub [(0, .ref x0), (1, .int x1), (2, .int x2), (3, .int x3)] [0, 1, 2, 3] rfl ?_
    exact I_X6_look_b13 hst x0 x1 x2 x3 x3 x0
  · refine I_ldc (v := 268435456) 13 dX6_look_11 rfl wcn_340 ?_
    refine I_sub [(0, .ref x0), (1, .int x1), (2, .int x2), (3, .int x3)] [0, 1, 2, 3] rfl ?_
    exact I_X6_look_b13 hst x0 x1 x2 x3 (268435456 : Int32) x0
theorem C_X6_look {l : Launch} {g : GX} (hst : l.stackTraces = false) (x0 : Nat) (x1 : Int32) (x2 : Int32) (x3 : Int32) (x4 : Int32) : Cs l g M_X6_look cvU [.ref x0, .int x1, .int x2, .int x3, .int x4] (f_X6_look (gt0 g) (gmi g) x0 x1 x2 x3 x4) :=
  Cs_of_I [(0, .ref x0), (1, .int x1), (2, .int x2), (3, .int x3), (4, .int x4)] rfl (by decide) hst (Nat.le_of_ble_eq_true rfl) rfl (I_X6_look hst x0 x1 x2 x3 x4)
/-! LunchMarksModel.reckonOne(IIIII)V -/
abbrev M_X6_reckonOne : MS := (yX6_reckonOne, cX6_reckonOne, 6, none, [], 3, 75)
theorem pd_X6_reckonOne : (parseMethodDescriptor (mY M_X6_reckonOne).desc).map (fun d => d.parameters.length) = some 5 := by decide +kernel
def f_X6_reckonOne (t0 mi : Nat) (x0 : Nat) (x1 : Int32) (x2 : Int32) (x3 : Int32) (x4 : Int32) (x5 : Int32) : Mo Unit :=
    bnd (vc x0 7 (f_X6_look t0 mi x0 x1 x3 x4 x5)) fun _ =>
    bnd (gA' x0 7 30) fun v11 =>
    bnd (gI x0 7 32) fun v22 =>
    bnd (stK 0 v11 (((160 : Int32) * x1) + x2) v22) fun _ =>
    bnd (gA' x0 7 31) fun v27 =>
    bnd (gI x0 7 33) fun v38 =>
    bnd (stK 0 v27 (((160 : Int32) * x1) + x2) v38) fun _ =>
    rt ()
set_option maxRecDepth 20000 in
theorem I_X6_reckonOne {l : Launch} {g : GX} (hst : l.stackTraces = false) (x0 : Nat) (x1 : Int32) (x2 : Int32) (x3 : Int32) (x4 : Int32) (x5 : Int32) : I l g M_X6_reckonOne cvU 0 [(0, .ref x0), (1, .int x1), (2, .int x2), (3, .int x3), (4, .int x4), (5, .int x5)] [] (f_X6_reckonOne (gt0 g) (gmi g) x0 x1 x2 x3 x4 x5) := by
  unfold f_X6_reckonOne
  refine I_aload_n 0 1 dX6_reckonOne_0 rfl rfl rfl ?_
  refine I_iload_n 1 2 dX6_reckonOne_1 rfl rfl rfl ?_
  refine I_iload_n 3 3 dX6_reckonOne_2 rfl rfl rfl ?_
  refine I_iload 4 5 dX6_reckonOne_3 rfl rfl ?_
  refine I_iload 5 7 dX6_reckonOne_5 rfl rfl ?_
  refine I_callVv (As := [.int x1, .int x3, .int x4, .int x5]) (rest := []) 10 (C_X6_look hst x0 x1 x3 x4 x5) dX6_reckonOne_7 rfl cl7 rfl (by decide) (Nat.le_of_ble_eq_true rfl) wcd_354 win_200 wml_355 wim_356 wse_357 ⟨by decide, by decide, pd_X6_look⟩ (fun x hx => by cases hx) (fun _ => ?_)
  refine I_aload_n 0 11 dX6_reckonOne_10 rfl rfl rfl ?_
  refine I_getA 14 dX6_reckonOne_11 rfl cl7 (by decide) wfl_77 sameF_rfl (fun v11 => ?_)
  refine I_sipush (160 : Int32) 17 dX6_reckonOne_14 rfl (by decide) ?_
  refine I_iload_n 1 18 dX6_reckonOne_17 rfl rfl rfl ?_
  refine I_imul 19 dX6_reckonOne_18 rfl ?_
  refine I_iload_n 2 20 dX6_reckonOne_19 rfl rfl rfl ?_
  refine I_iadd 21 dX6_reckonOne_20 rfl ?_
  refine I_aload_n 0 22 dX6_reckonOne_21 rfl rfl rfl ?_
  refine I_getI 25 dX6_reckonOne_22 rfl cl7 (by decide) wfl_341 sameF_rfl (fun v22 => ?_)
  refine I_iast 26 dX6_reckonOne_25 rfl ?_
  refine I_aload_n 0 27 dX6_reckonOne_26 rfl rfl rfl ?_
  refine I_getA 30 dX6_reckonOne_27 rfl cl7 (by decide) wfl_78 sameF_rfl (fun v27 => ?_)
  refine I_sipush (160 : Int32) 33 dX6_reckonOne_30 rfl (by decide) ?_
  refine I_iload_n 1 34 dX6_reckonOne_33 rfl rfl rfl ?_
  refine I_imul 35 dX6_reckonOne_34 rfl ?_
  refine I_iload_n 2 36 dX6_reckonOne_35 rfl rfl rfl ?_
  refine I_iadd 37 dX6_reckonOne_36 rfl ?_
  refine I_aload_n 0 38 dX6_reckonOne_37 rfl rfl rfl ?_
  refine I_getI 41 dX6_reckonOne_38 rfl cl7 (by decide) wfl_342 sameF_rfl (fun v38 => ?_)
  refine I_iast 42 dX6_reckonOne_41 rfl ?_
  exact I_vret dX6_reckonOne_42 rfl
theorem C_X6_reckonOne {l : Launch} {g : GX} (hst : l.stackTraces = false) (x0 : Nat) (x1 : Int32) (x2 : Int32) (x3 : Int32) (x4 : Int32) (x5 : Int32) : Cs l g M_X6_reckonOne cvU [.ref x0, .int x1, .int x2, .int x3, .int x4, .int x5] (f_X6_reckonOne (gt0 g) (gmi g) x0 x1 x2 x3 x4 x5) :=
  Cs_of_I [(0, .ref x0), (1, .int x1), (2, .int x2), (3, .int x3), (4, .int x4), (5, .int x5)] rfl (by decide) hst (Nat.le_of_ble_eq_true rfl) rfl (I_X6_reckonOne hst x0 x1 x2 x3 x4 x5)
/-! LunchMarksModel.reckon(I)V -/
abbrev M_X6_reckon : MS := (yX6_reckon, cX6_reckon, 6, none, [], 4, 100)
theorem pd_X6_reckon : (parseMethodDescriptor (mY M_X6_reckon).desc).map (fun d => d.parameters.length) = some 1 := by decide +kernel
def X6_reckon_L20 (t0 mi : Nat) (x0 : Nat) (x1 : Int32) (x2 : Int32) (x3 : Int32) (kx : Mo Unit) : Nat → Int32 → Mo Unit
  | 0, _ => flr
  | n + 1, x4 =>
    bnd (gA' x0 7 8) fun v23 =>
    bnd (ldK 0 v23 x3) fun v27 =>
    (if v27 ≤ x4 then
    kx
    else
    bnd (f_X6_node t0 mi x3 x4) fun v34 =>
    bnd (gA' x0 7 9) fun v44 =>
    bnd (ldK 0 v44 v34) fun v49 =>
    bnd (gA' x0 7 10) fun v51 =>
    bnd (ldK 0 v51 v34) fun v56 =>
    bnd (gA' x0 7 6) fun v58 =>
    bnd (gA' x0 7 9) fun v62 =>
    bnd (ldK 0 v62 v34) fun v67 =>
    bnd (ldK 0 v58 v67) fun v68 =>
    bnd (vc x0 7 (f_X6_reckonOne t0 mi x0 x2 v34 v49 (v56 + v68) x1)) fun _ =>
    (X6_reckon_L20 t0 mi x0 x1 x2 x3 kx n) (x4 + 1))
set_option maxRecDepth 20000 in
theorem I_X6_reckon_L20 {l : Launch} {g : GX} (hst : l.stackTraces = false) (x0 : Nat) (x1 : Int32) (x2 : Int32) (x3 : Int32) (kx : Mo Unit) (hkx : I l g M_X6_reckon cvU 80 [(0, .ref x0), (1, .int x1), (2, .int x2), (3, .int x3)] [] kx) : ∀ (n : Nat) (x4 : Int32), I l g M_X6_reckon cvU 20 [(0, .ref x0), (1, .int x1), (2, .int x2), (3, .int x3), (4, .int x4)] [] (X6_reckon_L20 (gt0 g) (gmi g) x0 x1 x2 x3 kx n x4) := by
  intro n
  induction n with
  | zero => intro x4; rw [X6_reckon_L20]; exact I_flr
  | succ n ih =>
    intro x4; rw [X6_reckon_L20]
    refine I_iload 4 22 dX6_reckon_20 rfl rfl ?_
    refine I_aload_n 0 23 dX6_reckon_22 rfl rfl rfl ?_
    refine I_getA 26 dX6_reckon_23 rfl cl7 (by decide) wfl_54 sameF_rfl (fun v23 => ?_)
    refine I_iload_n 3 27 dX6_reckon_26 rfl rfl rfl ?_
    refine I_iald 28 dX6_reckon_27 rfl (fun v27 => ?_)
    refine I_icmp_ge 80 31 dX6_reckon_28 rfl rfl (fun _ => ?_) (fun _ => ?_)
    · refine I_sub [(0, .ref x0), (1, .int x1), (2, .int x2), (3, .int x3)] [0, 1, 2, 3] rfl ?_
      exact hkx
    · refine I_iload_n 3 32 dX6_reckon_31 rfl rfl rfl ?_
      refine I_iload 4 34 dX6_reckon_32 rfl rfl ?_
      refine I_callSi (As := [.int x3, .int x4]) (rest := []) 37 (C_X6_node hst x3 x4) dX6_reckon_34 rfl rfl (by decide) (Nat.le_of_ble_eq_true rfl) wcd_208 win_200 wml_209 wst_210 ⟨by decide, by decide, pd_X6_node⟩ (fun x hx => by cases hx) (fun v34 => ?_)
      refine I_istore 39 [(5, .int v34), (0, .ref x0), (1, .int x1), (2, .int x2), (3, .int x3), (4, .int x4)] dX6_reckon_37 rfl (by decide) rfl ?_
      refine I_aload_n 1 40 dX6_reckon_39 rfl rfl rfl ?_
      refine I_iload_n 3 41 dX6_reckon_40 rfl rfl rfl ?_
      refine I_iload 0 43 dX6_reckon_41 rfl rfl ?_
      refine I_aload_n 1 44 dX6_reckon_43 rfl rfl rfl ?_
      refine I_getA 47 dX6_reckon_44 rfl cl7 (by decide) wfl_55 sameF_rfl (fun v44 => ?_)
      refine I_iload 0 49 dX6_reckon_47 rfl rfl ?_
      refine I_iald 50 dX6_reckon_49 rfl (fun v49 => ?_)
      refine I_aload_n 1 51 dX6_reckon_50 rfl rfl rfl ?_
      refine I_getA 54 dX6_reckon_51 rfl cl7 (by decide) wfl_56 sameF_rfl (fun v51 => ?_)
      refine I_iload 0 56 dX6_reckon_54 rfl rfl ?_
      refine I_iald 57 dX6_reckon_56 rfl (fun v56 => ?_)
      refine I_aload_n 1 58 dX6_reckon_57 rfl rfl rfl ?_
      refine I_getA 61 dX6_reckon_58 rfl cl7 (by decide) wfl_52 sameF_rfl (fun v58 => ?_)
      refine I_aload_n 1 62 dX6_reckon_61 rfl rfl rfl ?_
      refine I_getA 65 dX6_reckon_62 rfl cl7 (by decide) wfl_55 sameF_rfl (fun v62 => ?_)
      refine I_iload 0 67 dX6_reckon_65 rfl rfl ?_
      refine I_iald 68 dX6_reckon_67 rfl (fun v67 => ?_)
      refine I_iald 69 dX6_reckon_68 rfl (fun v68 => ?_)
      refine I_iadd 70 dX6_reckon_69 rfl ?_
      refine I_iload_n 2 71 dX6_reckon_70 rfl rfl rfl ?_
      refine I_callVv (As := [.int x2, .int v34, .int v49, .int (v56 + v68), .int x1]) (rest := []) 74 (C_X6_reckonOne hst x0 x2 v34 v49 (v56 + v68) x1) dX6_reckon_71 rfl cl7 rfl (by decide) (Nat.le_of_ble_eq_true rfl) wcd_358 win_200 wml_359 wim_360 wse_361 ⟨by decide, by decide, pd_X6_reckonOne⟩ (fun x hx => by cases hx) (fun _ => ?_)
      refine I_iinc 77 (x4 + 1) [(4, .int (x4 + 1)), (5, .int v34), (0, .ref x0), (1, .int x1), (2, .int x2), (3, .int x3)] 5 dX6_reckon_74 rfl rfl rfl (by decide) rfl ?_
      refine I_goto 20 dX6_reckon_77 rfl ?_
      refine I_sub [(0, .ref x0), (1, .int x1), (2, .int x2), (3, .int x3), (4, .int (x4 + 1))] [2, 3, 4, 5, 0] rfl ?_
      exact ih (x4 + 1)
def X6_reckon_L9 (t0 mi : Nat) (x0 : Nat) (x1 : Int32) (x2 : Int32) (kx : Mo Unit) : Nat → Int32 → Mo Unit
  | 0, _ => flr
  | n + 1, x3 =>
    bnd (gI x0 7 3) fun v11 =>
    (if v11 ≤ x3 then
    kx
    else
    X6_reckon_L20 t0 mi x0 x1 x2 x3 ((X6_reckon_L9 t0 mi x0 x1 x2 kx n) (x3 + 1)) FU (0 : Int32))
set_option maxRecDepth 20000 in
theorem I_X6_reckon_L9 {l : Launch} {g : GX} (hst : l.stackTraces = false) (x0 : Nat) (x1 : Int32) (x2 : Int32) (kx : Mo Unit) (hkx : I l g M_X6_reckon cvU 86 [(0, .ref x0), (1, .int x1), (2, .int x2)] [] kx) : ∀ (n : Nat) (x3 : Int32), I l g M_X6_reckon cvU 9 [(0, .ref x0), (1, .int x1), (2, .int x2), (3, .int x3)] [] (X6_reckon_L9 (gt0 g) (gmi g) x0 x1 x2 kx n x3) := by
  intro n
  induction n with
  | zero => intro x3; rw [X6_reckon_L9]; exact I_flr
  | succ n ih =>
    intro x3; rw [X6_reckon_L9]
    refine I_iload_n 3 10 dX6_reckon_9 rfl rfl rfl ?_
    refine I_aload_n 0 11 dX6_reckon_10 rfl rfl rfl ?_
    refine I_getI 14 dX6_reckon_11 rfl cl7 (by decide) wfl_149 sameF_rfl (fun v11 => ?_)
    refine I_icmp_ge 86 17 dX6_reckon_14 rfl rfl (fun _ => ?_) (fun _ => ?_)
    · refine I_sub [(0, .ref x0), (1, .int x1), (2, .int x2)] [0, 1, 2] rfl ?_
      exact hkx
    · refine I_iconst (0 : Int32) 18 dX6_reckon_17 rfl (by decide) ?_
      refine I_istore 20 [(4, .int (0 : Int32)), (0, .ref x0), (1, .int x1), (2, .int x2), (3, .int x3)] dX6_reckon_18 rfl (by decide) rfl ?_
      refine I_sub [(0, .ref x0), (1, .int x1), (2, .int x2), (3, .int x3), (4, .int (0 : Int32))] [1, 2, 3, 4, 0] rfl ?_
      refine I_X6_reckon_L20 hst x0 x1 x2 x3 _ ?_ FU (0 : Int32)
      refine I_iinc 83 (x3 + 1) [(3, .int (x3 + 1)), (0, .ref x0), (1, .int x1), (2, .int x2)] 3 dX6_reckon_80 rfl rfl rfl (by decide) rfl ?_
      refine I_goto 9 dX6_reckon_83 rfl ?_
      refine I_sub [(0, .ref x0), (1, .int x1), (2, .int x2), (3, .int (x3 + 1))] [1, 2, 3, 0] rfl ?_
      exact ih (x3 + 1)
def X6_reckon_L2 (t0 mi : Nat) (x0 : Nat) (x1 : Int32) (kx : Mo Unit) : Nat → Int32 → Mo Unit
  | 0, _ => flr
  | n + 1, x2 =>
    (if (3 : Int32) < x2 then
    kx
    else
    X6_reckon_L9 t0 mi x0 x1 x2 ((X6_reckon_L2 t0 mi x0 x1 kx n) (x2 + 1)) FU (0 : Int32))
set_option maxRecDepth 20000 in
theorem I_X6_reckon_L2 {l : Launch} {g : GX} (hst : l.stackTraces = false) (x0 : Nat) (x1 : Int32) (kx : Mo Unit) (hkx : I l g M_X6_reckon cvU 92 [] [] kx) : ∀ (n : Nat) (x2 : Int32), I l g M_X6_reckon cvU 2 [(0, .ref x0), (1, .int x1), (2, .int x2)] [] (X6_reckon_L2 (gt0 g) (gmi g) x0 x1 kx n x2) := by
  intro n
  induction n with
  | zero => intro x2; rw [X6_reckon_L2]; exact I_flr
  | succ n ih =>
    intro x2; rw [X6_reckon_L2]
    refine I_iload_n 2 3 dX6_reckon_2 rfl rfl rfl ?_
    refine I_iconst (3 : Int32) 4 dX6_reckon_3 rfl (by decide) ?_
    refine I_icmp_gt 92 7 dX6_reckon_4 rfl rfl (fun _ => ?_) (fun _ => ?_)
    · refine I_sub [] [] rfl ?_
      exact hkx
    · refine I_iconst (0 : Int32) 8 dX6_reckon_7 rfl (by decide) ?_
      refine I_istore_n 9 [(3, .int (0 : Int32)), (0, .ref x0), (1, .int x1), (2, .int x2)] dX6_reckon_8 rfl rfl (by decide) rfl ?_
      refine I_sub [(0, .ref x0), (1, .int x1), (2, .int x2), (3, .int (0 : Int32))] [1, 2, 3, 0] rfl ?_
      refine I_X6_reckon_L9 hst x0 x1 x2 _ ?_ FU (0 : Int32)
      refine I_iinc 89 (x2 + 1) [(2, .int (x2 + 1)), (0, .ref x0), (1, .int x1)] 2 dX6_reckon_86 rfl rfl rfl (by decide) rfl ?_
      refine I_goto 2 dX6_reckon_89 rfl ?_
      refine I_sub [(0, .ref x0), (1, .int x1), (2, .int (x2 + 1))] [1, 2, 0] rfl ?_
      exact ih (x2 + 1)
def f_X6_reckon (t0 mi : Nat) (x0 : Nat) (x1 : Int32) : Mo Unit :=
    X6_reckon_L2 t0 mi x0 x1 (rt ()) FU (0 : Int32)
set_option maxRecDepth 20000 in
theorem I_X6_reckon {l : Launch} {g : GX} (hst : l.stackTraces = false) (x0 : Nat) (x1 : Int32) : I l g M_X6_reckon cvU 0 [(0, .ref x0), (1, .int x1)] [] (f_X6_reckon (gt0 g) (gmi g) x0 x1) := by
  unfold f_X6_reckon
  refine I_iconst (0 : Int32) 1 dX6_reckon_0 rfl (by decide) ?_
  refine I_istore_n 2 [(2, .int (0 : Int32)), (0, .ref x0), (1, .int x1)] dX6_reckon_1 rfl rfl (by decide) rfl ?_
  refine I_sub [(0, .ref x0), (1, .int x1), (2, .int (0 : Int32))] [1, 2, 0] rfl ?_
  refine I_X6_reckon_L2 hst x0 x1 _ ?_ FU (0 : Int32)
  exact I_vret dX6_reckon_92 rfl
theorem C_X6_reckon {l : Launch} {g : GX} (hst : l.stackTraces = false) (x0 : Nat) (x1 : Int32) : Cs l g M_X6_reckon cvU [.ref x0, .int x1] (f_X6_reckon (gt0 g) (gmi g) x0 x1) :=
  Cs_of_I [(0, .ref x0), (1, .int x1)] rfl (by decide) hst (Nat.le_of_ble_eq_true rfl) rfl (I_X6_reckon hst x0 x1)
/-! LunchMarksModel.legAt(II)I -/
abbrev M_X6_legAt : MS := (yX6_legAt, cX6_legAt, 2, (some .int), [], 0, 0)
theorem pd_X6_legAt : (parseMethodDescriptor (mY M_X6_legAt).desc).map (fun d => d.parameters.length) = some 2 := by decide +kernel
def f_X6_legAt (t0 mi : Nat) (x0 : Int32) (x1 : Int32) : Mo Int32 :=
    rt (((3 : Int32) * x0) + x1)
set_option maxRecDepth 20000 in
theorem I_X6_legAt {l : Launch} {g : GX} (hst : l.stackTraces = false) (x0 : Int32) (x1 : Int32) : I l g M_X6_legAt cvI 0 [(0, .int x0), (1, .int x1)] [] (f_X6_legAt (gt0 g) (gmi g) x0 x1) := by
  unfold f_X6_legAt
  refine I_iconst (3 : Int32) 1 dX6_legAt_0 rfl (by decide) ?_
  refine I_iload_n 0 2 dX6_legAt_1 rfl rfl rfl ?_
  refine I_imul 3 dX6_legAt_2 rfl ?_
  refine I_iload_n 1 4 dX6_legAt_3 rfl rfl rfl ?_
  refine I_iadd 5 dX6_legAt_4 rfl ?_
  exact I_iret dX6_legAt_5 rfl
theorem C_X6_legAt {l : Launch} {g : GX} (hst : l.stackTraces = false) (x0 : Int32) (x1 : Int32) : Cs l g M_X6_legAt cvI [.int x0, .int x1] (f_X6_legAt (gt0 g) (gmi g) x0 x1) :=
  Cs_of_I [(0, .int x0), (1, .int x1)] rfl (by decide) hst (Nat.le_of_ble_eq_true rfl) rfl (I_X6_legAt hst x0 x1)
/-! LunchMarksModel.lead(III)Z -/
abbrev M_X6_lead : MS := (yX6_lead, cX6_lead, 9, (some .boolean), [], 5, 125)
theorem pd_X6_lead : (parseMethodDescriptor (mY M_X6_lead).desc).map (fun d => d.parameters.length) = some 3 := by decide +kernel
def X6_lead_L52 (t0 mi : Nat) (x0 : Nat) (x4 : Int32) (x5 : Int32) (kx : Mo Int32) : Nat → Int32 → Mo Int32
  | 0, _ => flr
  | n + 1, x6 =>
    bnd (gI x0 7 34) fun v53 =>
    (if v53 = (-1 : Int32) then
    kx
    else
    bnd (gA' x0 7 24) fun v63 =>
    bnd (ldK 0 v63 x4) fun v68 =>
    bnd (f_X6_legAt t0 mi x4 v68) fun v69 =>
    bnd (gA' x0 7 27) fun v75 =>
    bnd (gI x0 7 34) fun v81 =>
    bnd (stK 0 v75 v69 v81) fun _ =>
    bnd (gA' x0 7 28) fun v86 =>
    bnd (gI x0 7 35) fun v92 =>
    bnd (stK 0 v86 v69 v92) fun _ =>
    bnd (gA' x0 7 29) fun v97 =>
    bnd (gI x0 7 36) fun v103 =>
    bnd (stK 0 v97 v69 v103) fun _ =>
    bnd (gA' x0 7 24) fun v108 =>
    bnd (ldK 0 v108 x4) fun v114 =>
    bnd (stK 0 v108 x4 (v114 + (1 : Int32))) fun _ =>
    bnd (gI x0 7 34) fun v122 =>
    bnd (gI x0 7 36) fun v126 =>
    bnd (f_X6_node t0 mi v122 v126) fun v129 =>
    bnd (gA' x0 7 9) fun v138 =>
    bnd (ldK 0 v138 v129) fun v143 =>
    bnd (gA' x0 7 10) fun v145 =>
    bnd (ldK 0 v145 v129) fun v150 =>
    bnd (gA' x0 7 6) fun v152 =>
    bnd (gA' x0 7 9) fun v156 =>
    bnd (ldK 0 v156 v129) fun v161 =>
    bnd (ldK 0 v152 v161) fun v162 =>
    bnd (vc x0 7 (f_X6_look t0 mi x0 (x6 + (-1)) v143 (v150 + v162) x5)) fun _ =>
    (X6_lead_L52 t0 mi x0 x4 x5 kx n) (x6 + (-1)))
set_option maxRecDepth 20000 in
theorem I_X6_lead_L52 {l : Launch} {g : GX} (hst : l.stackTraces = false) (x0 : Nat) (x4 : Int32) (x5 : Int32) (kx : Mo Int32) (hkx : I l g M_X6_lead cvI 172 [(0, .ref x0), (4, .int x4)] [] kx) : ∀ (n : Nat) (x6 : Int32), I l g M_X6_lead cvI 52 [(0, .ref x0), (4, .int x4), (5, .int x5), (6, .int x6)] [] (X6_lead_L52 (gt0 g) (gmi g) x0 x4 x5 kx n x6) := by
  intro n
  induction n with
  | zero => intro x6; rw [X6_lead_L52]; exact I_flr
  | succ n ih =>
    intro x6; rw [X6_lead_L52]
    refine I_aload_n 0 53 dX6_lead_52 rfl rfl rfl ?_
    refine I_getI 56 dX6_lead_53 rfl cl7 (by decide) wfl_343 sameF_rfl (fun v53 => ?_)
    refine I_iconst (-1 : Int32) 57 dX6_lead_56 rfl (by decide) ?_
    refine I_icmp_eq 172 60 dX6_lead_57 rfl rfl (fun _ => ?_) (fun _ => ?_)
    · refine I_sub [(0, .ref x0), (4, .int x4)] [0, 1] rfl ?_
      exact hkx
    · refine I_iload 1 62 dX6_lead_60 rfl rfl ?_
      refine I_aload_n 0 63 dX6_lead_62 rfl rfl rfl ?_
      refine I_getA 66 dX6_lead_63 rfl cl7 (by decide) wfl_71 sameF_rfl (fun v63 => ?_)
      refine I_iload 1 68 dX6_lead_66 rfl rfl ?_
      refine I_iald 69 dX6_lead_68 rfl (fun v68 => ?_)
      refine I_callSi (As := [.int x4, .int v68]) (rest := []) 72 (C_X6_legAt hst x4 v68) dX6_lead_69 rfl rfl (by decide) (Nat.le_of_ble_eq_true rfl) wcd_374 win_200 wml_375 wst_376 ⟨by decide, by decide, pd_X6_legAt⟩ (fun x hx => by cases hx) (fun v69 => ?_)
      refine I_istore 74 [(7, .int v69), (0, .ref x0), (4, .int x4), (5, .int x5), (6, .int x6)] dX6_lead_72 rfl (by decide) rfl ?_
      refine I_aload_n 1 75 dX6_lead_74 rfl rfl rfl ?_
      refine I_getA 78 dX6_lead_75 rfl cl7 (by decide) wfl_74 sameF_rfl (fun v75 => ?_)
      refine I_iload 0 80 dX6_lead_78 rfl rfl ?_
      refine I_aload_n 1 81 dX6_lead_80 rfl rfl rfl ?_
      refine I_getI 84 dX6_lead_81 rfl cl7 (by decide) wfl_343 sameF_rfl (fun v81 => ?_)
      refine I_iast 85 dX6_lead_84 rfl ?_
      refine I_aload_n 1 86 dX6_lead_85 rfl rfl rfl ?_
      refine I_getA 89 dX6_lead_86 rfl cl7 (by decide) wfl_75 sameF_rfl (fun v86 => ?_)
      refine I_iload 0 91 dX6_lead_89 rfl rfl ?_
      refine I_aload_n 1 92 dX6_lead_91 rfl rfl rfl ?_
      refine I_getI 95 dX6_lead_92 rfl cl7 (by decide) wfl_344 sameF_rfl (fun v92 => ?_)
      refine I_iast 96 dX6_lead_95 rfl ?_
      refine I_aload_n 1 97 dX6_lead_96 rfl rfl rfl ?_
      refine I_getA 100 dX6_lead_97 rfl cl7 (by decide) wfl_76 sameF_rfl (fun v97 => ?_)
      refine I_iload 0 102 dX6_lead_100 rfl rfl ?_
      refine I_aload_n 1 103 dX6_lead_102 rfl rfl rfl ?_
      refine I_getI 106 dX6_lead_103 rfl cl7 (by decide) wfl_345 sameF_rfl (fun v103 => ?_)
      refine I_iast 107 dX6_lead_106 rfl ?_
      refine I_aload_n 1 108 dX6_lead_107 rfl rfl rfl ?_
      refine I_getA 111 dX6_lead_108 rfl cl7 (by decide) wfl_71 sameF_rfl (fun v108 => ?_)
      refine I_iload 2 113 dX6_lead_111 rfl rfl ?_
      refine I_dup2 114 dX6_lead_113 rfl rfl rfl ?_
      refine I_iald 115 dX6_lead_114 rfl (fun v114 => ?_)
      refine I_iconst (1 : Int32) 116 dX6_lead_115 rfl (by decide) ?_
      refine I_iadd 117 dX6_lead_116 rfl ?_
      refine I_iast 118 dX6_lead_117 rfl ?_
      refine I_iinc 121 (x6 + (-1)) [(6, .int (x6 + (-1))), (7, .int v69), (0, .ref x0), (4, .int x4), (5, .int x5)] 4 dX6_lead_118 rfl rfl rfl (by decide) rfl ?_
      refine I_aload_n 2 122 dX6_lead_121 rfl rfl rfl ?_
      refine I_getI 125 dX6_lead_122 rfl cl7 (by decide) wfl_343 sameF_rfl (fun v122 => ?_)
      refine I_aload_n 2 126 dX6_lead_125 rfl rfl rfl ?_
      refine I_getI 129 dX6_lead_126 rfl cl7 (by decide) wfl_345 sameF_rfl (fun v126 => ?_)
      refine I_callSi (As := [.int v122, .int v126]) (rest := []) 132 (C_X6_node hst v122 v126) dX6_lead_129 rfl rfl (by decide) (Nat.le_of_ble_eq_true rfl) wcd_208 win_200 wml_209 wst_210 ⟨by decide, by decide, pd_X6_node⟩ (fun x hx => by cases hx) (fun v129 => ?_)
      refine I_istore 134 [(8, .int v129), (6, .int (x6 + (-1))), (7, .int v69), (0, .ref x0), (4, .int x4), (5, .int x5)] dX6_lead_132 rfl (by decide) rfl ?_
      refine I_aload_n 3 135 dX6_lead_134 rfl rfl rfl ?_
      refine I_iload 1 137 dX6_lead_135 rfl rfl ?_
      refine I_aload_n 3 138 dX6_lead_137 rfl rfl rfl ?_
      refine I_getA 141 dX6_lead_138 rfl cl7 (by decide) wfl_55 sameF_rfl (fun v138 => ?_)
      refine I_iload 0 143 dX6_lead_141 rfl rfl ?_
      refine I_iald 144 dX6_lead_143 rfl (fun v143 => ?_)
      refine I_aload_n 3 145 dX6_lead_144 rfl rfl rfl ?_
      refine I_getA 148 dX6_lead_145 rfl cl7 (by decide) wfl_56 sameF_rfl (fun v145 => ?_)
      refine I_iload 0 150 dX6_lead_148 rfl rfl ?_
      refine I_iald 151 dX6_lead_150 rfl (fun v150 => ?_)
      refine I_aload_n 3 152 dX6_lead_151 rfl rfl rfl ?_
      refine I_getA 155 dX6_lead_152 rfl cl7 (by decide) wfl_52 sameF_rfl (fun v152 => ?_)
      refine I_aload_n 3 156 dX6_lead_155 rfl rfl rfl ?_
      refine I_getA 159 dX6_lead_156 rfl cl7 (by decide) wfl_55 sameF_rfl (fun v156 => ?_)
      refine I_iload 0 161 dX6_lead_159 rfl rfl ?_
      refine I_iald 162 dX6_lead_161 rfl (fun v161 => ?_)
      refine I_iald 163 dX6_lead_162 rfl (fun v162 => ?_)
      refine I_iadd 164 dX6_lead_163 rfl ?_
      refine I_iload 5 166 dX6_lead_164 rfl rfl ?_
      refine I_callVv (As := [.int (x6 + (-1)), .int v143, .int (v150 + v162), .int x5]) (rest := []) 169 (C_X6_look hst x0 (x6 + (-1)) v143 (v150 + v162) x5) dX6_lead_166 rfl cl7 rfl (by decide) (Nat.le_of_ble_eq_true rfl) wcd_354 win_200 wml_355 wim_356 wse_357 ⟨by decide, by decide, pd_X6_look⟩ (fun x hx => by cases hx) (fun _ => ?_)
      refine I_goto 52 dX6_lead_169 rfl ?_
      refine I_sub [(0, .ref x0), (4, .int x4), (5, .int x5), (6, .int (x6 + (-1)))] [3, 4, 5, 1] rfl ?_
      exact ih (x6 + (-1))
def f_X6_lead (t0 mi : Nat) (x0 : Nat) (x1 : Int32) (x2 : Int32) (x3 : Int32) : Mo Int32 :=
    bnd (vc x0 7 (f_X6_wayOf t0 mi x0 x1)) fun v2 =>
    bnd (vc x0 7 (f_X6_toOf t0 mi x0 x1)) fun v9 =>
    bnd (vc x0 7 (f_X6_reckon t0 mi x0 v9)) fun _ =>
    bnd (gA' x0 7 24) fun v22 =>
    bnd (ldK 0 v22 v2) fun v27 =>
    bnd (vc x0 7 (f_X6_look t0 mi x0 ((3 : Int32) - v27) x2 x3 v9)) fun _ =>
    bnd (gI x0 7 32) fun v42 =>
    (if v42 < (268435456 : Int32) then
    X6_lead_L52 t0 mi x0 v2 v9 (bnd (gA' x0 7 22) fun v173 =>
    bnd (stZ v173 v2 (1 : Int32)) fun _ =>
    bnd (gA' x0 7 23) fun v181 =>
    bnd (stZ v181 v2 (1 : Int32)) fun _ =>
    bnd (gA' x0 7 25) fun v189 =>
    bnd (stK 0 v189 v2 (-1 : Int32)) fun _ =>
    rtZ (1 : Int32)) FU ((3 : Int32) - v27)
    else
    rtZ (0 : Int32))
set_option maxRecDepth 20000 in
theorem I_X6_lead {l : Launch} {g : GX} (hst : l.stackTraces = false) (x0 : Nat) (x1 : Int32) (x2 : Int32) (x3 : Int32) : I l g M_X6_lead cvI 0 [(0, .ref x0), (1, .int x1), (2, .int x2), (3, .int x3)] [] (f_X6_lead (gt0 g) (gmi g) x0 x1 x2 x3) := by
  unfold f_X6_lead
  refine I_aload_n 0 1 dX6_lead_0 rfl rfl rfl ?_
  refine I_iload_n 1 2 dX6_lead_1 rfl rfl rfl ?_
  refine I_callVi (As := [.int x1]) (rest := []) 5 (C_X6_wayOf hst x0 x1) dX6_lead_2 rfl cl7 rfl (by decide) (Nat.le_of_ble_eq_true rfl) wcd_362 win_200 wml_363 wim_364 wse_365 ⟨by decide, by decide, pd_X6_wayOf⟩ (fun x hx => by cases hx) (fun v2 => ?_)
  refine I_istore 7 [(4, .int v2), (0, .ref x0), (1, .int x1), (2, .int x2), (3, .int x3)] dX6_lead_5 rfl (by decide) rfl ?_
  refine I_aload_n 1 8 dX6_lead_7 rfl rfl rfl ?_
  refine I_iload_n 2 9 dX6_lead_8 rfl rfl rfl ?_
  refine I_callVi (As := [.int x1]) (rest := []) 12 (C_X6_toOf hst x0 x1) dX6_lead_9 rfl cl7 rfl (by decide) (Nat.le_of_ble_eq_true rfl) wcd_366 win_200 wml_367 wim_368 wse_369 ⟨by decide, by decide, pd_X6_toOf⟩ (fun x hx => by cases hx) (fun v9 => ?_)
  refine I_istore 14 [(5, .int v9), (4, .int v2), (0, .ref x0), (1, .int x1), (2, .int x2), (3, .int x3)] dX6_lead_12 rfl (by decide) rfl ?_
  refine I_aload_n 2 15 dX6_lead_14 rfl rfl rfl ?_
  refine I_iload 0 17 dX6_lead_15 rfl rfl ?_
  refine I_callVv (As := [.int v9]) (rest := []) 20 (C_X6_reckon hst x0 v9) dX6_lead_17 rfl cl7 rfl (by decide) (Nat.le_of_ble_eq_true rfl) wcd_370 win_200 wml_371 wim_372 wse_373 ⟨by decide, by decide, pd_X6_reckon⟩ (fun x hx => by cases hx) (fun _ => ?_)
  refine I_iconst (3 : Int32) 21 dX6_lead_20 rfl (by decide) ?_
  refine I_aload_n 2 22 dX6_lead_21 rfl rfl rfl ?_
  refine I_getA 25 dX6_lead_22 rfl cl7 (by decide) wfl_71 sameF_rfl (fun v22 => ?_)
  refine I_iload 1 27 dX6_lead_25 rfl rfl ?_
  refine I_iald 28 dX6_lead_27 rfl (fun v27 => ?_)
  refine I_isub 29 dX6_lead_28 rfl ?_
  refine I_istore 31 [(6, .int ((3 : Int32) - v27)), (5, .int v9), (4, .int v2), (0, .ref x0), (1, .int x1), (2, .int x2), (3, .int x3)] dX6_lead_29 rfl (by decide) rfl ?_
  refine I_aload_n 3 32 dX6_lead_31 rfl rfl rfl ?_
  refine I_iload 0 34 dX6_lead_32 rfl rfl ?_
  refine I_iload_n 5 35 dX6_lead_34 rfl rfl rfl ?_
  refine I_iload_n 6 36 dX6_lead_35 rfl rfl rfl ?_
  refine I_iload 1 38 dX6_lead_36 rfl rfl ?_
  refine I_callVv (As := [.int ((3 : Int32) - v27), .int x2, .int x3, .int v9]) (rest := []) 41 (C_X6_look hst x0 ((3 : Int32) - v27) x2 x3 v9) dX6_lead_38 rfl cl7 rfl (by decide) (Nat.le_of_ble_eq_true rfl) wcd_354 win_200 wml_355 wim_356 wse_357 ⟨by decide, by decide, pd_X6_look⟩ (fun x hx => by cases hx) (fun _ => ?_)
  refine I_aload_n 3 42 dX6_lead_41 rfl rfl rfl ?_
  refine I_getI 45 dX6_lead_42 rfl cl7 (by decide) wfl_341 sameF_rfl (fun v42 => ?_)
  refine I_ldc (v := 268435456) 47 dX6_lead_45 rfl wcn_340 ?_
  refine I_icmp_lt 52 50 dX6_lead_47 rfl rfl (fun _ => ?_) (fun _ => ?_)
  · refine I_sub [(0, .ref x0), (4, .int v2), (5, .int v9), (6, .int ((3 : Int32) - v27))] [3, 2, 1, 0] rfl ?_
    refine I_X6_lead_L52 hst x0 v2 v9 _ ?_ FU ((3 : Int32) - v27)
    refine I_aload_n 0 173 dX6_lead_172 rfl rfl rfl ?_
    refine I_getA 176 dX6_lead_173 rfl cl7 (by decide) wfl_69 sameF_rfl (fun v173 => ?_)
    refine I_iload 1 178 dX6_lead_176 rfl rfl ?_
    refine I_iconst (1 : Int32) 179 dX6_lead_178 rfl (by decide) ?_
    refine I_zast 180 dX6_lead_179 rfl ?_
    refine I_aload_n 0 181 dX6_lead_180 rfl rfl rfl ?_
    refine I_getA 184 dX6_lead_181 rfl cl7 (by decide) wfl_70 sameF_rfl (fun v181 => ?_)
    refine I_iload 1 186 dX6_lead_184 rfl rfl ?_
    refine I_iconst (1 : Int32) 187 dX6_lead_186 rfl (by decide) ?_
    refine I_zast 188 dX6_lead_187 rfl ?_
    refine I_aload_n 0 189 dX6_lead_188 rfl rfl rfl ?_
    refine I_getA 192 dX6_lead_189 rfl cl7 (by decide) wfl_72 sameF_rfl (fun v189 => ?_)
    refine I_iload 1 194 dX6_lead_192 rfl rfl ?_
    refine I_iconst (-1 : Int32) 195 dX6_lead_194 rfl (by decide) ?_
    refine I_iast 196 dX6_lead_195 rfl ?_
    refine I_iconst (1 : Int32) 197 dX6_lead_196 rfl (by decide) ?_
    exact I_zret dX6_lead_197 rfl
  · refine I_iconst (0 : Int32) 51 dX6_lead_50 rfl (by decide) ?_
    exact I_zret dX6_lead_51 rfl
theorem C_X6_lead {l : Launch} {g : GX} (hst : l.stackTraces = false) (x0 : Nat) (x1 : Int32) (x2 : Int32) (x3 : Int32) : Cs l g M_X6_lead cvI [.ref x0, .int x1, .int x2, .int x3] (f_X6_lead (gt0 g) (gmi g) x0 x1 x2 x3) :=
  Cs_of_I [(0, .ref x0), (1, .int x1), (2, .int x2), (3, .int x3)] rfl (by decide) hst (Nat.le_of_ble_eq_true rfl) rfl (I_X6_lead hst x0 x1 x2 x3)
/-! LunchMarksModel.load0(III)V -/
abbrev M_X6_load0 : MS := (yX6_load0, cX6_load0, 7, none, [], 1, 21)
theorem pd_X6_load0 : (parseMethodDescriptor (mY M_X6_load0).desc).map (fun d => d.parameters.length) = some 3 := by decide +kernel
def X6_load0_L31 (t0 mi : Nat) (x0 : Nat) (x1 : Int32) (x3 : Int32) (x4 : Int32) (x5 : Int32) (kx : Mo Unit) : Nat → Int32 → Mo Unit
  | 0, _ => flr
  | n + 1, x6 =>
    bnd (gA' x0 7 29) fun v34 =>
    bnd (ldK 0 v34 x5) fun v39 =>
    (if v39 ≤ x6 then
    kx
    else
    bnd (gA' x0 7 11) fun v44 =>
    bnd (gA' x0 7 27) fun v48 =>
    bnd (ldK 0 v48 x5) fun v53 =>
    bnd (f_X6_node t0 mi v53 x6) fun v56 =>
    bnd (ldK 0 v44 v56) fun v60 =>
    bnd (stK 0 v44 v56 (v60 + x3)) fun _ =>
    (X6_load0_L31 t0 mi x0 x1 x3 x4 x5 kx n) (x6 + 1))
set_option maxRecDepth 20000 in
theorem I_X6_load0_L31 {l : Launch} {g : GX} (hst : l.stackTraces = false) (x0 : Nat) (x1 : Int32) (x3 : Int32) (x4 : Int32) (x5 : Int32) (kx : Mo Unit) (hkx : I l g M_X6_load0 cvU 70 [(0, .ref x0), (1, .int x1), (3, .int x3), (4, .int x4)] [] kx) : ∀ (n : Nat) (x6 : Int32), I l g M_X6_load0 cvU 31 [(0, .ref x0), (1, .int x1), (3, .int x3), (4, .int x4), (5, .int x5), (6, .int x6)] [] (X6_load0_L31 (gt0 g) (gmi g) x0 x1 x3 x4 x5 kx n x6) := by
  intro n
  induction n with
  | zero => intro x6; rw [X6_load0_L31]; exact I_flr
  | succ n ih =>
    intro x6; rw [X6_load0_L31]
    refine I_iload 5 33 dX6_load0_31 rfl rfl ?_
    refine I_aload_n 0 34 dX6_load0_33 rfl rfl rfl ?_
    refine I_getA 37 dX6_load0_34 rfl cl7 (by decide) wfl_76 sameF_rfl (fun v34 => ?_)
    refine I_iload 4 39 dX6_load0_37 rfl rfl ?_
    refine I_iald 40 dX6_load0_39 rfl (fun v39 => ?_)
    refine I_icmp_ge 70 43 dX6_load0_40 rfl rfl (fun _ => ?_) (fun _ => ?_)
    · refine I_sub [(0, .ref x0), (1, .int x1), (3, .int x3), (4, .int x4)] [0, 1, 2, 3] rfl ?_
      exact hkx
    · refine I_aload_n 0 44 dX6_load0_43 rfl rfl rfl ?_
      refine I_getA 47 dX6_load0_44 rfl cl7 (by decide) wfl_57 sameF_rfl (fun v44 => ?_)
      refine I_aload_n 0 48 dX6_load0_47 rfl rfl rfl ?_
      refine I_getA 51 dX6_load0_48 rfl cl7 (by decide) wfl_74 sameF_rfl (fun v48 => ?_)
      refine I_iload 4 53 dX6_load0_51 rfl rfl ?_
      refine I_iald 54 dX6_load0_53 rfl (fun v53 => ?_)
      refine I_iload 5 56 dX6_load0_54 rfl rfl ?_
      refine I_callSi (As := [.int v53, .int x6]) (rest := [.ref v44]) 59 (C_X6_node hst v53 x6) dX6_load0_56 rfl rfl (by decide) (Nat.le_of_ble_eq_true rfl) wcd_208 win_200 wml_209 wst_210 ⟨by decide, by decide, pd_X6_node⟩ (fun x hx => by cases hx) (fun v56 => ?_)
      refine I_dup2 60 dX6_load0_59 rfl rfl rfl ?_
      refine I_iald 61 dX6_load0_60 rfl (fun v60 => ?_)
      refine I_iload_n 2 62 dX6_load0_61 rfl rfl rfl ?_
      refine I_iadd 63 dX6_load0_62 rfl ?_
      refine I_iast 64 dX6_load0_63 rfl ?_
      refine I_iinc 67 (x6 + 1) [(6, .int (x6 + 1)), (0, .ref x0), (1, .int x1), (3, .int x3), (4, .int x4), (5, .int x5)] 5 dX6_load0_64 rfl rfl rfl (by decide) rfl ?_
      refine I_goto 31 dX6_load0_67 rfl ?_
      refine I_sub [(0, .ref x0), (1, .int x1), (3, .int x3), (4, .int x4), (5, .int x5), (6, .int (x6 + 1))] [1, 2, 3, 4, 5, 0] rfl ?_
      exact ih (x6 + 1)
def X6_load0_L3 (t0 mi : Nat) (x0 : Nat) (x1 : Int32) (x3 : Int32) (kx : Mo Unit) : Nat → Int32 → Mo Unit
  | 0, _ => flr
  | n + 1, x4 =>
    bnd (gA' x0 7 24) fun v6 =>
    bnd (ldK 0 v6 x1) fun v10 =>
    (if v10 ≤ x4 then
    kx
    else
    bnd (f_X6_legAt t0 mi x1 x4) fun v17 =>
    bnd (gA' x0 7 28) fun v23 =>
    bnd (ldK 0 v23 v17) fun v28 =>
    X6_load0_L31 t0 mi x0 x1 x3 x4 v17 ((X6_load0_L3 t0 mi x0 x1 x3 kx n) (x4 + 1)) FU v28)
set_option maxRecDepth 20000 in
theorem I_X6_load0_L3 {l : Launch} {g : GX} (hst : l.stackTraces = false) (x0 : Nat) (x1 : Int32) (x3 : Int32) (kx : Mo Unit) (hkx : I l g M_X6_load0 cvU 76 [] [] kx) : ∀ (n : Nat) (x4 : Int32), I l g M_X6_load0 cvU 3 [(0, .ref x0), (1, .int x1), (3, .int x3), (4, .int x4)] [] (X6_load0_L3 (gt0 g) (gmi g) x0 x1 x3 kx n x4) := by
  intro n
  induction n with
  | zero => intro x4; rw [X6_load0_L3]; exact I_flr
  | succ n ih =>
    intro x4; rw [X6_load0_L3]
    refine I_iload 3 5 dX6_load0_3 rfl rfl ?_
    refine I_aload_n 0 6 dX6_load0_5 rfl rfl rfl ?_
    refine I_getA 9 dX6_load0_6 rfl cl7 (by decide) wfl_71 sameF_rfl (fun v6 => ?_)
    refine I_iload_n 1 10 dX6_load0_9 rfl rfl rfl ?_
    refine I_iald 11 dX6_load0_10 rfl (fun v10 => ?_)
    refine I_icmp_ge 76 14 dX6_load0_11 rfl rfl (fun _ => ?_) (fun _ => ?_)
    · refine I_sub [] [] rfl ?_
      exact hkx
    · refine I_iload_n 1 15 dX6_load0_14 rfl rfl rfl ?_
      refine I_iload 3 17 dX6_load0_15 rfl rfl ?_
      refine I_callSi (As := [.int x1, .int x4]) (rest := []) 20 (C_X6_legAt hst x1 x4) dX6_load0_17 rfl rfl (by decide) (Nat.le_of_ble_eq_true rfl) wcd_374 win_200 wml_375 wst_376 ⟨by decide, by decide, pd_X6_legAt⟩ (fun x hx => by cases hx) (fun v17 => ?_)
      refine I_istore 22 [(5, .int v17), (0, .ref x0), (1, .int x1), (3, .int x3), (4, .int x4)] dX6_load0_20 rfl (by decide) rfl ?_
      refine I_aload_n 1 23 dX6_load0_22 rfl rfl rfl ?_
      refine I_getA 26 dX6_load0_23 rfl cl7 (by decide) wfl_75 sameF_rfl (fun v23 => ?_)
      refine I_iload 0 28 dX6_load0_26 rfl rfl ?_
      refine I_iald 29 dX6_load0_28 rfl (fun v28 => ?_)
      refine I_istore 31 [(6, .int v28), (5, .int v17), (0, .ref x0), (1, .int x1), (3, .int x3), (4, .int x4)] dX6_load0_29 rfl (by decide) rfl ?_
      refine I_sub [(0, .ref x0), (1, .int x1), (3, .int x3), (4, .int x4), (5, .int v17), (6, .int v28)] [2, 3, 4, 5, 1, 0] rfl ?_
      refine I_X6_load0_L31 hst x0 x1 x3 x4 v17 _ ?_ FU v28
      refine I_iinc 73 (x4 + 1) [(4, .int (x4 + 1)), (0, .ref x0), (1, .int x1), (3, .int x3)] 3 dX6_load0_70 rfl rfl rfl (by decide) rfl ?_
      refine I_goto 3 dX6_load0_73 rfl ?_
      refine I_sub [(0, .ref x0), (1, .int x1), (3, .int x3), (4, .int (x4 + 1))] [1, 2, 3, 0] rfl ?_
      exact ih (x4 + 1)
def f_X6_load0 (t0 mi : Nat) (x0 : Nat) (x1 : Int32) (x2 : Int32) (x3 : Int32) : Mo Unit :=
    X6_load0_L3 t0 mi x0 x1 x3 (rt ()) FU x2
set_option maxRecDepth 20000 in
theorem I_X6_load0 {l : Launch} {g : GX} (hst : l.stackTraces = false) (x0 : Nat) (x1 : Int32) (x2 : Int32) (x3 : Int32) : I l g M_X6_load0 cvU 0 [(0, .ref x0), (1, .int x1), (2, .int x2), (3, .int x3)] [] (f_X6_load0 (gt0 g) (gmi g) x0 x1 x2 x3) := by
  unfold f_X6_load0
  refine I_iload_n 2 1 dX6_load0_0 rfl rfl rfl ?_
  refine I_istore 3 [(4, .int x2), (0, .ref x0), (1, .int x1), (2, .int x2), (3, .int x3)] dX6_load0_1 rfl (by decide) rfl ?_
  refine I_sub [(0, .ref x0), (1, .int x1), (3, .int x3), (4, .int x2)] [1, 2, 4, 0] rfl ?_
  refine I_X6_load0_L3 hst x0 x1 x3 _ ?_ FU x2
  exact I_vret dX6_load0_76 rfl
theorem C_X6_load0 {l : Launch} {g : GX} (hst : l.stackTraces = false) (x0 : Nat) (x1 : Int32) (x2 : Int32) (x3 : Int32) : Cs l g M_X6_load0 cvU [.ref x0, .int x1, .int x2, .int x3] (f_X6_load0 (gt0 g) (gmi g) x0 x1 x2 x3) :=
  Cs_of_I [(0, .ref x0), (1, .int x1), (2, .int x2), (3, .int x3)] rfl (by decide) hst (Nat.le_of_ble_eq_true rfl) rfl (I_X6_load0 hst x0 x1 x2 x3)
