/-! LunchMarks$Train.changeLoads(III)V -/
abbrev M_X3_changeLoads : MS := (yX3_changeLoads, cX3_changeLoads, 5, none, [], 0, 0)
theorem pd_X3_changeLoads : (parseMethodDescriptor (mY M_X3_changeLoads).desc).map (fun d => d.parameters.length) = some 3 := by decide +kernel
def X3_changeLoads_L3 (t0 mi : Nat) (x0 : Nat) (x2 : Int32) (x3 : Int32) (kx : Mo Unit) : Nat → Int32 → Mo Unit
  | 0, _ => flr
  | n + 1, x4 =>
    (if x2 ≤ x4 then
    kx
    else
    bnd (gA' x0 4 3) fun v10 =>
    bnd (ldK 0 v10 x4) fun v16 =>
    bnd (stK 0 v10 x4 (v16 + x3)) fun _ =>
    (X3_changeLoads_L3 t0 mi x0 x2 x3 kx n) (x4 + 1))
set_option maxRecDepth 20000 in
theorem I_X3_changeLoads_L3 {l : Launch} {g : GX} (hst : l.stackTraces = false) (x0 : Nat) (x2 : Int32) (x3 : Int32) (kx : Mo Unit) (hkx : I l g M_X3_changeLoads cvU 26 [] [] kx) : ∀ (n : Nat) (x4 : Int32), I l g M_X3_changeLoads cvU 3 [(0, .ref x0), (2, .int x2), (3, .int x3), (4, .int x4)] [] (X3_changeLoads_L3 (gt0 g) (gmi g) x0 x2 x3 kx n x4) := by
  intro n
  induction n with
  | zero => intro x4; rw [X3_changeLoads_L3]; exact I_flr
  | succ n ih =>
    intro x4; rw [X3_changeLoads_L3]
    refine I_iload 3 5 dX3_changeLoads_3 rfl rfl ?_
    refine I_iload_n 1 6 dX3_changeLoads_5 rfl rfl rfl ?_
    refine I_icmp_ge 26 9 dX3_changeLoads_6 rfl rfl (fun _ => ?_) (fun _ => ?_)
    · refine I_sub [] [] rfl ?_
      exact hkx
    · refine I_aload_n 0 10 dX3_changeLoads_9 rfl rfl rfl ?_
      refine I_getA 13 dX3_changeLoads_10 rfl cl4 (by decide) wfl_95 sameF_rfl (fun v10 => ?_)
      refine I_iload 3 15 dX3_changeLoads_13 rfl rfl ?_
      refine I_dup2 16 dX3_changeLoads_15 rfl rfl rfl ?_
      refine I_iald 17 dX3_changeLoads_16 rfl (fun v16 => ?_)
      refine I_iload_n 2 18 dX3_changeLoads_17 rfl rfl rfl ?_
      refine I_iadd 19 dX3_changeLoads_18 rfl ?_
      refine I_iast 20 dX3_changeLoads_19 rfl ?_
      refine I_iinc 23 (x4 + 1) [(4, .int (x4 + 1)), (0, .ref x0), (2, .int x2), (3, .int x3)] 3 dX3_changeLoads_20 rfl rfl rfl (by decide) rfl ?_
      refine I_goto 3 dX3_changeLoads_23 rfl ?_
      refine I_sub [(0, .ref x0), (2, .int x2), (3, .int x3), (4, .int (x4 + 1))] [1, 2, 3, 0] rfl ?_
      exact ih (x4 + 1)
def f_X3_changeLoads (t0 mi : Nat) (x0 : Nat) (x1 : Int32) (x2 : Int32) (x3 : Int32) : Mo Unit :=
    X3_changeLoads_L3 t0 mi x0 x2 x3 (rt ()) FU x1
set_option maxRecDepth 20000 in
theorem I_X3_changeLoads {l : Launch} {g : GX} (hst : l.stackTraces = false) (x0 : Nat) (x1 : Int32) (x2 : Int32) (x3 : Int32) : I l g M_X3_changeLoads cvU 0 [(0, .ref x0), (1, .int x1), (2, .int x2), (3, .int x3)] [] (f_X3_changeLoads (gt0 g) (gmi g) x0 x1 x2 x3) := by
  unfold f_X3_changeLoads
  refine I_iload_n 1 1 dX3_changeLoads_0 rfl rfl rfl ?_
  refine I_istore 3 [(4, .int x1), (0, .ref x0), (1, .int x1), (2, .int x2), (3, .int x3)] dX3_changeLoads_1 rfl (by decide) rfl ?_
  refine I_sub [(0, .ref x0), (2, .int x2), (3, .int x3), (4, .int x1)] [1, 3, 4, 0] rfl ?_
  refine I_X3_changeLoads_L3 hst x0 x2 x3 _ ?_ FU x1
  exact I_vret dX3_changeLoads_26 rfl
theorem C_X3_changeLoads {l : Launch} {g : GX} (hst : l.stackTraces = false) (x0 : Nat) (x1 : Int32) (x2 : Int32) (x3 : Int32) : Cs l g M_X3_changeLoads cvU [.ref x0, .int x1, .int x2, .int x3] (f_X3_changeLoads (gt0 g) (gmi g) x0 x1 x2 x3) :=
  Cs_of_I [(0, .ref x0), (1, .int x1), (2, .int x2), (3, .int x3)] rfl (by decide) hst (Nat.le_of_ble_eq_true rfl) rfl (I_X3_changeLoads hst x0 x1 x2 x3)
/-! LunchMarks$Trip.addLeg(III)V -/
abbrev M_X4_addLeg : MS := (yX4_addLeg, cX4_addLeg, 4, none, [], 0, 0)
theorem pd_X4_addLeg : (parseMethodDescriptor (mY M_X4_addLeg).desc).map (fun d => d.parameters.length) = some 3 := by decide +kernel
def f_X4_addLeg (t0 mi : Nat) (x0 : Nat) (x1 : Int32) (x2 : Int32) (x3 : Int32) : Mo Unit :=
    bnd (gA' x0 5 6) fun v1 =>
    bnd (gI x0 5 7) fun v5 =>
    bnd (stK 0 v1 ((v5 * (3 : Int32)) + (0 : Int32)) x1) fun _ =>
    bnd (gA' x0 5 6) fun v15 =>
    bnd (gI x0 5 7) fun v19 =>
    bnd (stK 0 v15 ((v19 * (3 : Int32)) + (1 : Int32)) x2) fun _ =>
    bnd (gA' x0 5 6) fun v29 =>
    bnd (gI x0 5 7) fun v33 =>
    bnd (stK 0 v29 ((v33 * (3 : Int32)) + (2 : Int32)) x3) fun _ =>
    bnd (gI x0 5 7) fun v44 =>
    bnd (pV x0 5 7 (.int (v44 + (1 : Int32)))) fun _ =>
    rt ()
set_option maxRecDepth 20000 in
theorem I_X4_addLeg {l : Launch} {g : GX} (hst : l.stackTraces = false) (x0 : Nat) (x1 : Int32) (x2 : Int32) (x3 : Int32) : I l g M_X4_addLeg cvU 0 [(0, .ref x0), (1, .int x1), (2, .int x2), (3, .int x3)] [] (f_X4_addLeg (gt0 g) (gmi g) x0 x1 x2 x3) := by
  unfold f_X4_addLeg
  refine I_aload_n 0 1 dX4_addLeg_0 rfl rfl rfl ?_
  refine I_getA 4 dX4_addLeg_1 rfl cl5 (by decide) wfl_218 sameF_rfl (fun v1 => ?_)
  refine I_aload_n 0 5 dX4_addLeg_4 rfl rfl rfl ?_
  refine I_getI 8 dX4_addLeg_5 rfl cl5 (by decide) wfl_219 sameF_rfl (fun v5 => ?_)
  refine I_iconst (3 : Int32) 9 dX4_addLeg_8 rfl (by decide) ?_
  refine I_imul 10 dX4_addLeg_9 rfl ?_
  refine I_iconst (0 : Int32) 11 dX4_addLeg_10 rfl (by decide) ?_
  refine I_iadd 12 dX4_addLeg_11 rfl ?_
  refine I_iload_n 1 13 dX4_addLeg_12 rfl rfl rfl ?_
  refine I_iast 14 dX4_addLeg_13 rfl ?_
  refine I_aload_n 0 15 dX4_addLeg_14 rfl rfl rfl ?_
  refine I_getA 18 dX4_addLeg_15 rfl cl5 (by decide) wfl_218 sameF_rfl (fun v15 => ?_)
  refine I_aload_n 0 19 dX4_addLeg_18 rfl rfl rfl ?_
  refine I_getI 22 dX4_addLeg_19 rfl cl5 (by decide) wfl_219 sameF_rfl (fun v19 => ?_)
  refine I_iconst (3 : Int32) 23 dX4_addLeg_22 rfl (by decide) ?_
  refine I_imul 24 dX4_addLeg_23 rfl ?_
  refine I_iconst (1 : Int32) 25 dX4_addLeg_24 rfl (by decide) ?_
  refine I_iadd 26 dX4_addLeg_25 rfl ?_
  refine I_iload_n 2 27 dX4_addLeg_26 rfl rfl rfl ?_
  refine I_iast 28 dX4_addLeg_27 rfl ?_
  refine I_aload_n 0 29 dX4_addLeg_28 rfl rfl rfl ?_
  refine I_getA 32 dX4_addLeg_29 rfl cl5 (by decide) wfl_218 sameF_rfl (fun v29 => ?_)
  refine I_aload_n 0 33 dX4_addLeg_32 rfl rfl rfl ?_
  refine I_getI 36 dX4_addLeg_33 rfl cl5 (by decide) wfl_219 sameF_rfl (fun v33 => ?_)
  refine I_iconst (3 : Int32) 37 dX4_addLeg_36 rfl (by decide) ?_
  refine I_imul 38 dX4_addLeg_37 rfl ?_
  refine I_iconst (2 : Int32) 39 dX4_addLeg_38 rfl (by decide) ?_
  refine I_iadd 40 dX4_addLeg_39 rfl ?_
  refine I_iload_n 3 41 dX4_addLeg_40 rfl rfl rfl ?_
  refine I_iast 42 dX4_addLeg_41 rfl ?_
  refine I_aload_n 0 43 dX4_addLeg_42 rfl rfl rfl ?_
  refine I_dup 44 dX4_addLeg_43 rfl rfl ?_
  refine I_getI 47 dX4_addLeg_44 rfl cl5 (by decide) wfl_219 sameF_rfl (fun v44 => ?_)
  refine I_iconst (1 : Int32) 48 dX4_addLeg_47 rfl (by decide) ?_
  refine I_iadd 49 dX4_addLeg_48 rfl ?_
  refine I_put 52 dX4_addLeg_49 rfl cl5 (by decide) wfl_219 sameF_rfl rfl rfl rfl ?_
  exact I_vret dX4_addLeg_52 rfl
theorem C_X4_addLeg {l : Launch} {g : GX} (hst : l.stackTraces = false) (x0 : Nat) (x1 : Int32) (x2 : Int32) (x3 : Int32) : Cs l g M_X4_addLeg cvU [.ref x0, .int x1, .int x2, .int x3] (f_X4_addLeg (gt0 g) (gmi g) x0 x1 x2 x3) :=
  Cs_of_I [(0, .ref x0), (1, .int x1), (2, .int x2), (3, .int x3)] rfl (by decide) hst (Nat.le_of_ble_eq_true rfl) rfl (I_X4_addLeg hst x0 x1 x2 x3)
/-! LunchMarks$Network.takeFirstLeg(LLunchMarks$Trip;III)Z -/
abbrev M_X2_takeFirstLeg : MS := (yX2_takeFirstLeg, cX2_takeFirstLeg, 9, (some .boolean), [], 3, 64)
theorem pd_X2_takeFirstLeg : (parseMethodDescriptor (mY M_X2_takeFirstLeg).desc).map (fun d => d.parameters.length) = some 4 := by decide +kernel
def X2_takeFirstLeg_b119 (t0 mi : Nat) (kh32 : Int32 → Mo Int32) (x0 : Nat) (x1 : Nat) (x2 : Int32) (x3 : Int32) (x4 : Int32) (x5 : Int32) (x6 : Nat) (x7 : Int32) : Mo Int32 :=
    kh32 (x7 + 1)
set_option maxRecDepth 20000 in
theorem I_X2_takeFirstLeg_b119 {l : Launch} {g : GX} (hst : l.stackTraces = false) (x0 : Nat) (x1 : Nat) (x2 : Int32) (x3 : Int32) (x4 : Int32) (x5 : Int32) (x6 : Nat) (x7 : Int32) (kh32 : Int32 → Mo Int32) (hkh32 : ∀ (z7 : Int32), I l g M_X2_takeFirstLeg cvI 32 [(0, .ref x0), (1, .ref x1), (2, .int x2), (3, .int x3), (4, .int x4), (5, .int x5), (6, .ref x6), (7, .int z7)] [] (kh32 z7)) : I l g M_X2_takeFirstLeg cvI 119 [(0, .ref x0), (1, .ref x1), (2, .int x2), (3, .int x3), (4, .int x4), (5, .int x5), (6, .ref x6), (7, .int x7)] [] (X2_takeFirstLeg_b119 (gt0 g) (gmi g) kh32 x0 x1 x2 x3 x4 x5 x6 x7) := by
  unfold X2_takeFirstLeg_b119
  refine I_iinc 122 (x7 + 1) [(7, .int (x7 + 1)), (0, .ref x0), (1, .ref x1), (2, .int x2), (3, .int x3), (4, .int x4), (5, .int x5), (6, .ref x6)] 7 dX2_takeFirstLeg_119 rfl rfl rfl (by decide) rfl ?_
  refine I_goto 32 dX2_takeFirstLeg_122 rfl ?_
  refine I_sub [(0, .ref x0), (1, .ref x1), (2, .int x2), (3, .int x3), (4, .int x4), (5, .int x5), (6, .ref x6), (7, .int (x7 + 1))] [1, 2, 3, 4, 5, 6, 7, 0] rfl ?_
  exact hkh32 (x7 + 1)
def X2_takeFirstLeg_L32 (t0 mi : Nat) (x0 : Nat) (x1 : Nat) (x2 : Int32) (x3 : Int32) (x4 : Int32) (x5 : Int32) (x6 : Nat) (kx : Mo Int32) : Nat → Int32 → Mo Int32
  | 0, _ => flr
  | n + 1, x7 =>
    bnd (gI x6 4 4) fun v36 =>
    (if v36 ≤ x7 then
    kx
    else
    bnd (gI x6 4 5) fun v44 =>
    (if v44 = 0 then
    bnd (gA' x6 4 1) fun v52 =>
    bnd (ldK 0 v52 x7) fun v57 =>
    (if v57 = x2 then
    bnd (gA' x6 4 2) fun v64 =>
    bnd (ldK 0 v64 x7) fun v69 =>
    (if v69 < x3 then
    X2_takeFirstLeg_b119 t0 mi (X2_takeFirstLeg_L32 t0 mi x0 x1 x2 x3 x4 x5 x6 kx n) x0 x1 x2 x3 x4 x5 x6 x7
    else
    bnd (gA' x0 3 4) fun v80 =>
    bnd (ldR 4 v80 x4) fun v85 =>
    bnd (vc x0 3 (f_X2_firstOff t0 mi x0 x6 x7 v85)) fun v86 =>
    (if v86 = (-1 : Int32) then
    X2_takeFirstLeg_b119 t0 mi (X2_takeFirstLeg_L32 t0 mi x0 x1 x2 x3 x4 x5 x6 kx n) x0 x1 x2 x3 x4 x5 x6 x7
    else
    bnd (vc x6 4 (f_X3_changeLoads t0 mi x6 x7 v86 (1 : Int32))) fun _ =>
    bnd (vc x1 5 (f_X4_addLeg t0 mi x1 x5 x7 v86)) fun _ =>
    rtZ (1 : Int32)))
    else
    X2_takeFirstLeg_b119 t0 mi (X2_takeFirstLeg_L32 t0 mi x0 x1 x2 x3 x4 x5 x6 kx n) x0 x1 x2 x3 x4 x5 x6 x7)
    else
    kx))
set_option maxRecDepth 20000 in
theorem I_X2_takeFirstLeg_L32 {l : Launch} {g : GX} (hst : l.stackTraces = false) (x0 : Nat) (x1 : Nat) (x2 : Int32) (x3 : Int32) (x4 : Int32) (x5 : Int32) (x6 : Nat) (kx : Mo Int32) (hkx : I l g M_X2_takeFirstLeg cvI 125 [(0, .ref x0), (1, .ref x1), (2, .int x2), (3, .int x3), (4, .int x4), (5, .int x5)] [] kx) : ∀ (n : Nat) (x7 : Int32), I l g M_X2_takeFirstLeg cvI 32 [(0, .ref x0), (1, .ref x1), (2, .int x2), (3, .int x3), (4, .int x4), (5, .int x5), (6, .ref x6), (7, .int x7)] [] (X2_takeFirstLeg_L32 (gt0 g) (gmi g) x0 x1 x2 x3 x4 x5 x6 kx n x7) := by
  intro n
  induction n with
  | zero => intro x7; rw [X2_takeFirstLeg_L32]; exact I_flr
  | succ n ih =>
    intro x7; rw [X2_takeFirstLeg_L32]
    refine I_iload 7 34 dX2_takeFirstLeg_32 rfl rfl ?_
    refine I_aload 6 36 dX2_takeFirstLeg_34 rfl rfl ?_
    refine I_getI 39 dX2_takeFirstLeg_36 rfl cl4 (by decide) wfl_244 sameF_rfl (fun v36 => ?_)
    refine I_icmp_ge 125 42 dX2_takeFirstLeg_39 rfl rfl (fun _ => ?_) (fun _ => ?_)
    · refine I_sub [(0, .ref x0), (1, .ref x1), (2, .int x2), (3, .int x3), (4, .int x4), (5, .int x5)] [0, 1, 2, 3, 4, 5] rfl ?_
      exact hkx
    · refine I_aload 6 44 dX2_takeFirstLeg_42 rfl rfl ?_
      refine I_getI 47 dX2_takeFirstLeg_44 rfl cl4 (by decide) wfl_259 sameF_rfl (fun v44 => ?_)
      refine I_if_ne 125 50 dX2_takeFirstLeg_47 rfl rfl (fun _ => ?_) (fun _ => ?_)
      · refine I_aload 6 52 dX2_takeFirstLeg_50 rfl rfl ?_
        refine I_getA 55 dX2_takeFirstLeg_52 rfl cl4 (by decide) wfl_243 sameF_rfl (fun v52 => ?_)
        refine I_iload 7 57 dX2_takeFirstLeg_55 rfl rfl ?_
        refine I_iald 58 dX2_takeFirstLeg_57 rfl (fun v57 => ?_)
        refine I_iload_n 2 59 dX2_takeFirstLeg_58 rfl rfl rfl ?_
        refine I_icmp_ne 119 62 dX2_takeFirstLeg_59 rfl rfl (fun _ => ?_) (fun _ => ?_)
        · refine I_aload 6 64 dX2_takeFirstLeg_62 rfl rfl ?_
          refine I_getA 67 dX2_takeFirstLeg_64 rfl cl4 (by decide) wfl_242 sameF_rfl (fun v64 => ?_)
          refine I_iload 7 69 dX2_takeFirstLeg_67 rfl rfl ?_
          refine I_iald 70 dX2_takeFirstLeg_69 rfl (fun v69 => ?_)
          refine I_iload_n 3 71 dX2_takeFirstLeg_70 rfl rfl rfl ?_
          refine I_icmp_lt 119 74 dX2_takeFirstLeg_71 rfl rfl (fun _ => ?_) (fun _ => ?_)
          · refine I_sub [(0, .ref x0), (1, .ref x1), (2, .int x2), (3, .int x3), (4, .int x4), (5, .int x5), (6, .ref x6), (7, .int x7)] [0, 1, 2, 3, 4, 5, 6, 7] rfl ?_
            exact I_X2_takeFirstLeg_b119 hst x0 x1 x2 x3 x4 x5 x6 x7 _ ih
          · refine I_aload_n 0 75 dX2_takeFirstLeg_74 rfl rfl rfl ?_
            refine I_aload 6 77 dX2_takeFirstLeg_75 rfl rfl ?_
            refine I_iload 7 79 dX2_takeFirstLeg_77 rfl rfl ?_
            refine I_aload_n 0 80 dX2_takeFirstLeg_79 rfl rfl rfl ?_
            refine I_getA 83 dX2_takeFirstLeg_80 rfl cl3 (by decide) wfl_27 sameF_rfl (fun v80 => ?_)
            refine I_iload 4 85 dX2_takeFirstLeg_83 rfl rfl ?_
            refine I_aald4 86 dX2_takeFirstLeg_85 rfl (fun v85 => ?_)
            refine I_callVi (As := [.ref x6, .int x7, .ref v85]) (rest := []) 89 (C_X2_firstOff hst x0 x6 x7 v85) dX2_takeFirstLeg_86 rfl cl3 rfl (by decide) (Nat.le_of_ble_eq_true rfl) wcd_273 win_34 wml_274 wim_275 wse_276 ⟨by decide, by decide, pd_X2_firstOff⟩ (fun x hx => by cases hx) (fun v86 => ?_)
            refine I_istore 91 [(8, .int v86), (0, .ref x0), (1, .ref x1), (2, .int x2), (3, .int x3), (4, .int x4), (5, .int x5), (6, .ref x6), (7, .int x7)] dX2_takeFirstLeg_89 rfl (by decide) rfl ?_
            refine I_iload 0 93 dX2_takeFirstLeg_91 rfl rfl ?_
            refine I_iconst (-1 : Int32) 94 dX2_takeFirstLeg_93 rfl (by decide) ?_
            refine I_icmp_eq 119 97 dX2_takeFirstLeg_94 rfl rfl (fun _ => ?_) (fun _ => ?_)
            · refine I_sub [(0, .ref x0), (1, .ref x1), (2, .int x2), (3, .int x3), (4, .int x4), (5, .int x5), (6, .ref x6), (7, .int x7)] [1, 2, 3, 4, 5, 6, 7, 8] rfl ?_
              exact I_X2_takeFirstLeg_b119 hst x0 x1 x2 x3 x4 x5 x6 x7 _ ih
            · refine I_aload 7 99 dX2_takeFirstLeg_97 rfl rfl ?_
              refine I_iload 8 101 dX2_takeFirstLeg_99 rfl rfl ?_
              refine I_iload 0 103 dX2_takeFirstLeg_101 rfl rfl ?_
              refine I_iconst (1 : Int32) 104 dX2_takeFirstLeg_103 rfl (by decide) ?_
              refine I_callVv (As := [.int x7, .int v86, .int (1 : Int32)]) (rest := []) 107 (C_X3_changeLoads hst x6 x7 v86 (1 : Int32)) dX2_takeFirstLeg_104 rfl cl4 rfl (by decide) (Nat.le_of_ble_eq_true rfl) wcd_277 win_137 wml_278 wim_279 wse_280 ⟨by decide, by decide, pd_X3_changeLoads⟩ (fun x hx => by cases hx) (fun _ => ?_)
              refine I_aload_n 2 108 dX2_takeFirstLeg_107 rfl rfl rfl ?_
              refine I_iload 6 110 dX2_takeFirstLeg_108 rfl rfl ?_
              refine I_iload 8 112 dX2_takeFirstLeg_110 rfl rfl ?_
              refine I_iload 0 114 dX2_takeFirstLeg_112 rfl rfl ?_
              refine I_callVv (As := [.int x5, .int x7, .int v86]) (rest := []) 117 (C_X4_addLeg hst x1 x5 x7 v86) dX2_takeFirstLeg_114 rfl cl5 rfl (by decide) (Nat.le_of_ble_eq_true rfl) wcd_281 win_233 wml_282 wim_283 wse_284 ⟨by decide, by decide, pd_X4_addLeg⟩ (fun x hx => by cases hx) (fun _ => ?_)
              refine I_iconst (1 : Int32) 118 dX2_takeFirstLeg_117 rfl (by decide) ?_
              exact I_zret dX2_takeFirstLeg_118 rfl
        · refine I_sub [(0, .ref x0), (1, .ref x1), (2, .int x2), (3, .int x3), (4, .int x4), (5, .int x5), (6, .ref x6), (7, .int x7)] [0, 1, 2, 3, 4, 5, 6, 7] rfl ?_
          exact I_X2_takeFirstLeg_b119 hst x0 x1 x2 x3 x4 x5 x6 x7 _ ih
      · refine I_sub [(0, .ref x0), (1, .ref x1), (2, .int x2), (3, .int x3), (4, .int x4), (5, .int x5)] [0, 1, 2, 3, 4, 5] rfl ?_
        exact hkx
def X2_takeFirstLeg_L3 (t0 mi : Nat) (x0 : Nat) (x1 : Nat) (x2 : Int32) (x3 : Int32) (x4 : Int32) (kx : Mo Int32) : Nat → Int32 → Mo Int32
  | 0, _ => flr
  | n + 1, x5 =>
    bnd (gA' x0 3 2) fun v6 =>
    bnd (vc v6 0 (f_Jx4a65c_size_8abf5 t0 mi v6)) fun v9 =>
    (if v9 ≤ x5 then
    kx
    else
    bnd (gA' x0 3 2) fun v16 =>
    bnd (vc v16 0 (f_Jx4a65c_get_915e3 t0 mi v16 x5)) fun v21 =>
    bnd (isC v21 4) fun _ =>
    X2_takeFirstLeg_L32 t0 mi x0 x1 x2 x3 x4 x5 v21 ((X2_takeFirstLeg_L3 t0 mi x0 x1 x2 x3 x4 kx n) (x5 + 1)) FU (0 : Int32))
set_option maxRecDepth 20000 in
theorem I_X2_takeFirstLeg_L3 {l : Launch} {g : GX} (hst : l.stackTraces = false) (x0 : Nat) (x1 : Nat) (x2 : Int32) (x3 : Int32) (x4 : Int32) (kx : Mo Int32) (hkx : I l g M_X2_takeFirstLeg cvI 131 [] [] kx) : ∀ (n : Nat) (x5 : Int32), I l g M_X2_takeFirstLeg cvI 3 [(0, .ref x0), (1, .ref x1), (2, .int x2), (3, .int x3), (4, .int x4), (5, .int x5)] [] (X2_takeFirstLeg_L3 (gt0 g) (gmi g) x0 x1 x2 x3 x4 kx n x5) := by
  intro n
  induction n with
  | zero => intro x5; rw [X2_takeFirstLeg_L3]; exact I_flr
  | succ n ih =>
    intro x5; rw [X2_takeFirstLeg_L3]
    refine I_iload 5 5 dX2_takeFirstLeg_3 rfl rfl ?_
    refine I_aload_n 0 6 dX2_takeFirstLeg_5 rfl rfl rfl ?_
    refine I_getA 9 dX2_takeFirstLeg_6 rfl cl3 (by decide) wfl_24 sameF_rfl (fun v6 => ?_)
    refine I_callVi (As := []) (rest := [.int x5]) 12 (C_Jx4a65c_size_8abf5 hst v6) dX2_takeFirstLeg_9 rfl cl0 rfl (by decide) (Nat.le_of_ble_eq_true rfl) wcd_131 win_20 wml_132 wim_133 wse_134 ⟨by decide, by decide, pd_Jx4a65c_size_8abf5⟩ (fun x hx => by cases hx) (fun v9 => ?_)
    refine I_icmp_ge 131 15 dX2_takeFirstLeg_12 rfl rfl (fun _ => ?_) (fun _ => ?_)
    · refine I_sub [] [] rfl ?_
      exact hkx
    · refine I_aload_n 0 16 dX2_takeFirstLeg_15 rfl rfl rfl ?_
      refine I_getA 19 dX2_takeFirstLeg_16 rfl cl3 (by decide) wfl_24 sameF_rfl (fun v16 => ?_)
      refine I_iload 5 21 dX2_takeFirstLeg_19 rfl rfl ?_
      refine I_callVa (As := [.int x5]) (rest := []) 24 (C_Jx4a65c_get_915e3 hst v16 x5) dX2_takeFirstLeg_21 rfl cl0 rfl (by decide) (Nat.le_of_ble_eq_true rfl) wcd_166 win_20 wml_258 wim_168 wse_169 ⟨by decide, by decide, pd_Jx4a65c_get_915e3⟩ (fun x hx => by cases hx) (fun v21 => ?_)
      refine I_cast 27 dX2_takeFirstLeg_24 rfl cl4 wcl_135 ?_
      refine I_astore 29 [(6, .ref v21), (0, .ref x0), (1, .ref x1), (2, .int x2), (3, .int x3), (4, .int x4), (5, .int x5)] dX2_takeFirstLeg_27 rfl (by decide) rfl ?_
      refine I_iconst (0 : Int32) 30 dX2_takeFirstLeg_29 rfl (by decide) ?_
      refine I_istore 32 [(7, .int (0 : Int32)), (6, .ref v21), (0, .ref x0), (1, .ref x1), (2, .int x2), (3, .int x3), (4, .int x4), (5, .int x5)] dX2_takeFirstLeg_30 rfl (by decide) rfl ?_
      refine I_sub [(0, .ref x0), (1, .ref x1), (2, .int x2), (3, .int x3), (4, .int x4), (5, .int x5), (6, .ref v21), (7, .int (0 : Int32))] [2, 3, 4, 5, 6, 7, 1, 0] rfl ?_
      refine I_X2_takeFirstLeg_L32 hst x0 x1 x2 x3 x4 x5 v21 _ ?_ FU (0 : Int32)
      refine I_iinc 128 (x5 + 1) [(5, .int (x5 + 1)), (0, .ref x0), (1, .ref x1), (2, .int x2), (3, .int x3), (4, .int x4)] 5 dX2_takeFirstLeg_125 rfl rfl rfl (by decide) rfl ?_
      refine I_goto 3 dX2_takeFirstLeg_128 rfl ?_
      refine I_sub [(0, .ref x0), (1, .ref x1), (2, .int x2), (3, .int x3), (4, .int x4), (5, .int (x5 + 1))] [1, 2, 3, 4, 5, 0] rfl ?_
      exact ih (x5 + 1)
def f_X2_takeFirstLeg (t0 mi : Nat) (x0 : Nat) (x1 : Nat) (x2 : Int32) (x3 : Int32) (x4 : Int32) : Mo Int32 :=
    X2_takeFirstLeg_L3 t0 mi x0 x1 x2 x3 x4 (rtZ (0 : Int32)) FU (0 : Int32)
set_option maxRecDepth 20000 in
theorem I_X2_takeFirstLeg {l : Launch} {g : GX} (hst : l.stackTraces = false) (x0 : Nat) (x1 : Nat) (x2 : Int32) (x3 : Int32) (x4 : Int32) : I l g M_X2_takeFirstLeg cvI 0 [(0, .ref x0), (1, .ref x1), (2, .int x2), (3, .int x3), (4, .int x4)] [] (f_X2_takeFirstLeg (gt0 g) (gmi g) x0 x1 x2 x3 x4) := by
  unfold f_X2_takeFirstLeg
  refine I_iconst (0 : Int32) 1 dX2_takeFirstLeg_0 rfl (by decide) ?_
  refine I_istore 3 [(5, .int (0 : Int32)), (0, .ref x0), (1, .ref x1), (2, .int x2), (3, .int x3), (4, .int x4)] dX2_takeFirstLeg_1 rfl (by decide) rfl ?_
  refine I_sub [(0, .ref x0), (1, .ref x1), (2, .int x2), (3, .int x3), (4, .int x4), (5, .int (0 : Int32))] [1, 2, 3, 4, 5, 0] rfl ?_
  refine I_X2_takeFirstLeg_L3 hst x0 x1 x2 x3 x4 _ ?_ FU (0 : Int32)
  refine I_iconst (0 : Int32) 132 dX2_takeFirstLeg_131 rfl (by decide) ?_
  exact I_zret dX2_takeFirstLeg_132 rfl
theorem C_X2_takeFirstLeg {l : Launch} {g : GX} (hst : l.stackTraces = false) (x0 : Nat) (x1 : Nat) (x2 : Int32) (x3 : Int32) (x4 : Int32) : Cs l g M_X2_takeFirstLeg cvI [.ref x0, .ref x1, .int x2, .int x3, .int x4] (f_X2_takeFirstLeg (gt0 g) (gmi g) x0 x1 x2 x3 x4) :=
  Cs_of_I [(0, .ref x0), (1, .ref x1), (2, .int x2), (3, .int x3), (4, .int x4)] rfl (by decide) hst (Nat.le_of_ble_eq_true rfl) rfl (I_X2_takeFirstLeg hst x0 x1 x2 x3 x4)
/-! LunchMarks$Trip.legNumber(II)I -/
abbrev M_X4_legNumber : MS := (yX4_legNumber, cX4_legNumber, 3, (some .int), [], 0, 0)
theorem pd_X4_legNumber : (parseMethodDescriptor (mY M_X4_legNumber).desc).map (fun d => d.parameters.length) = some 2 := by decide +kernel
def f_X4_legNumber (t0 mi : Nat) (x0 : Nat) (x1 : Int32) (x2 : Int32) : Mo Int32 :=
    bnd (gA' x0 5 6) fun v1 =>
    bnd (ldK 0 v1 ((x1 * (3 : Int32)) + x2)) fun v9 =>
    rt v9
set_option maxRecDepth 20000 in
theorem I_X4_legNumber {l : Launch} {g : GX} (hst : l.stackTraces = false) (x0 : Nat) (x1 : Int32) (x2 : Int32) : I l g M_X4_legNumber cvI 0 [(0, .ref x0), (1, .int x1), (2, .int x2)] [] (f_X4_legNumber (gt0 g) (gmi g) x0 x1 x2) := by
  unfold f_X4_legNumber
  refine I_aload_n 0 1 dX4_legNumber_0 rfl rfl rfl ?_
  refine I_getA 4 dX4_legNumber_1 rfl cl5 (by decide) wfl_218 sameF_rfl (fun v1 => ?_)
  refine I_iload_n 1 5 dX4_legNumber_4 rfl rfl rfl ?_
  refine I_iconst (3 : Int32) 6 dX4_legNumber_5 rfl (by decide) ?_
  refine I_imul 7 dX4_legNumber_6 rfl ?_
  refine I_iload_n 2 8 dX4_legNumber_7 rfl rfl rfl ?_
  refine I_iadd 9 dX4_legNumber_8 rfl ?_
  refine I_iald 10 dX4_legNumber_9 rfl (fun v9 => ?_)
  exact I_iret dX4_legNumber_10 rfl
theorem C_X4_legNumber {l : Launch} {g : GX} (hst : l.stackTraces = false) (x0 : Nat) (x1 : Int32) (x2 : Int32) : Cs l g M_X4_legNumber cvI [.ref x0, .int x1, .int x2] (f_X4_legNumber (gt0 g) (gmi g) x0 x1 x2) :=
  Cs_of_I [(0, .ref x0), (1, .int x1), (2, .int x2)] rfl (by decide) hst (Nat.le_of_ble_eq_true rfl) rfl (I_X4_legNumber hst x0 x1 x2)
/-! LunchMarks$Network.takeLegs(LLunchMarks$Trip;III)V -/
abbrev M_X2_takeLegs : MS := (yX2_takeLegs, cX2_takeLegs, 10, none, [], 4, 92)
theorem pd_X2_takeLegs : (parseMethodDescriptor (mY M_X2_takeLegs).desc).map (fun d => d.parameters.length) = some 4 := by decide +kernel
def X2_takeLegs_L12 (t0 mi : Nat) (x0 : Nat) (x1 : Nat) (kx : Mo Unit) : Nat → Int32 → Int32 → Int32 → Mo Unit
  | 0, _, _, _ => flr
  | n + 1, x5, x6, x7 =>
    (if x7 < 0 then
    kx
    else
    bnd (vc x0 3 (f_X2_takeFirstLeg t0 mi x0 x1 x5 x6 x7)) fun v25 =>
    (if v25 = 0 then
    kx
    else
    bnd (gA' x0 3 2) fun v32 =>
    bnd (gI x1 5 7) fun v37 =>
    bnd (vc x1 5 (f_X4_legNumber t0 mi x1 (v37 - (1 : Int32)) (0 : Int32))) fun v43 =>
    bnd (vc v32 0 (f_Jx4a65c_get_915e3 t0 mi v32 v43)) fun v46 =>
    bnd (isC v46 4) fun _ =>
    bnd (gI x1 5 7) fun v56 =>
    bnd (vc x1 5 (f_X4_legNumber t0 mi x1 (v56 - (1 : Int32)) (2 : Int32))) fun v62 =>
    bnd (gA' v46 4 1) fun v69 =>
    bnd (ldK 0 v69 v62) fun v74 =>
    bnd (vc x0 3 (f_X2_sortedAt t0 mi x0 v46 v62)) fun v82 =>
    (X2_takeLegs_L12 t0 mi x0 x1 kx n) v74 v82 (x7 + (-1))))
set_option maxRecDepth 20000 in
theorem I_X2_takeLegs_L12 {l : Launch} {g : GX} (hst : l.stackTraces = false) (x0 : Nat) (x1 : Nat) (kx : Mo Unit) (hkx : I l g M_X2_takeLegs cvU 93 [] [] kx) : ∀ (n : Nat) (x5 : Int32) (x6 : Int32) (x7 : Int32), I l g M_X2_takeLegs cvU 12 [(0, .ref x0), (1, .ref x1), (5, .int x5), (6, .int x6), (7, .int x7)] [] (X2_takeLegs_L12 (gt0 g) (gmi g) x0 x1 kx n x5 x6 x7) := by
  intro n
  induction n with
  | zero => intro x5 x6 x7; rw [X2_takeLegs_L12]; exact I_flr
  | succ n ih =>
    intro x5 x6 x7; rw [X2_takeLegs_L12]
    refine I_iload 4 14 dX2_takeLegs_12 rfl rfl ?_
    refine I_if_lt 93 17 dX2_takeLegs_14 rfl rfl (fun _ => ?_) (fun _ => ?_)
    · refine I_sub [] [] rfl ?_
      exact hkx
    · refine I_aload_n 0 18 dX2_takeLegs_17 rfl rfl rfl ?_
      refine I_aload_n 1 19 dX2_takeLegs_18 rfl rfl rfl ?_
      refine I_iload 2 21 dX2_takeLegs_19 rfl rfl ?_
      refine I_iload 3 23 dX2_takeLegs_21 rfl rfl ?_
      refine I_iload 4 25 dX2_takeLegs_23 rfl rfl ?_
      refine I_callVi (As := [.ref x1, .int x5, .int x6, .int x7]) (rest := []) 28 (C_X2_takeFirstLeg hst x0 x1 x5 x6 x7) dX2_takeLegs_25 rfl cl3 rfl (by decide) (Nat.le_of_ble_eq_true rfl) wcd_285 win_34 wml_286 wim_287 wse_288 ⟨by decide, by decide, pd_X2_takeFirstLeg⟩ (fun x hx => by cases hx) (fun v25 => ?_)
      refine I_if_eq 93 31 dX2_takeLegs_28 rfl rfl (fun _ => ?_) (fun _ => ?_)
      · refine I_sub [] [] rfl ?_
        exact hkx
      · refine I_aload_n 0 32 dX2_takeLegs_31 rfl rfl rfl ?_
        refine I_getA 35 dX2_takeLegs_32 rfl cl3 (by decide) wfl_24 sameF_rfl (fun v32 => ?_)
        refine I_aload_n 1 36 dX2_takeLegs_35 rfl rfl rfl ?_
        refine I_aload_n 1 37 dX2_takeLegs_36 rfl rfl rfl ?_
        refine I_getI 40 dX2_takeLegs_37 rfl cl5 (by decide) wfl_289 sameF_rfl (fun v37 => ?_)
        refine I_iconst (1 : Int32) 41 dX2_takeLegs_40 rfl (by decide) ?_
        refine I_isub 42 dX2_takeLegs_41 rfl ?_
        refine I_iconst (0 : Int32) 43 dX2_takeLegs_42 rfl (by decide) ?_
        refine I_callVi (As := [.int (v37 - (1 : Int32)), .int (0 : Int32)]) (rest := [.ref v32]) 46 (C_X4_legNumber hst x1 (v37 - (1 : Int32)) (0 : Int32)) dX2_takeLegs_43 rfl cl5 rfl (by decide) (Nat.le_of_ble_eq_true rfl) wcd_290 win_233 wml_291 wim_292 wse_293 ⟨by decide, by decide, pd_X4_legNumber⟩ (fun x hx => by cases hx) (fun v43 => ?_)
        refine I_callVa (As := [.int v43]) (rest := []) 49 (C_Jx4a65c_get_915e3 hst v32 v43) dX2_takeLegs_46 rfl cl0 rfl (by decide) (Nat.le_of_ble_eq_true rfl) wcd_166 win_20 wml_258 wim_168 wse_169 ⟨by decide, by decide, pd_Jx4a65c_get_915e3⟩ (fun x hx => by cases hx) (fun v46 => ?_)
        refine I_cast 52 dX2_takeLegs_49 rfl cl4 wcl_135 ?_
        refine I_astore 54 [(8, .ref v46), (0, .ref x0), (1, .ref x1), (5, .int x5), (6, .int x6), (7, .int x7)] dX2_takeLegs_52 rfl (by decide) rfl ?_
        refine I_aload_n 2 55 dX2_takeLegs_54 rfl rfl rfl ?_
        refine I_aload_n 2 56 dX2_takeLegs_55 rfl rfl rfl ?_
        refine I_getI 59 dX2_takeLegs_56 rfl cl5 (by decide) wfl_289 sameF_rfl (fun v56 => ?_)
        refine I_iconst (1 : Int32) 60 dX2_takeLegs_59 rfl (by decide) ?_
        refine I_isub 61 dX2_takeLegs_60 rfl ?_
        refine I_iconst (2 : Int32) 62 dX2_takeLegs_61 rfl (by decide) ?_
        refine I_callVi (As := [.int (v56 - (1 : Int32)), .int (2 : Int32)]) (rest := []) 65 (C_X4_legNumber hst x1 (v56 - (1 : Int32)) (2 : Int32)) dX2_takeLegs_62 rfl cl5 rfl (by decide) (Nat.le_of_ble_eq_true rfl) wcd_290 win_233 wml_291 wim_292 wse_293 ⟨by decide, by decide, pd_X4_legNumber⟩ (fun x hx => by cases hx) (fun v62 => ?_)
        refine I_istore 67 [(9, .int v62), (8, .ref v46), (0, .ref x0), (1, .ref x1), (5, .int x5), (6, .int x6), (7, .int x7)] dX2_takeLegs_65 rfl (by decide) rfl ?_
        refine I_aload 1 69 dX2_takeLegs_67 rfl rfl ?_
        refine I_getA 72 dX2_takeLegs_69 rfl cl4 (by decide) wfl_243 sameF_rfl (fun v69 => ?_)
        refine I_iload 0 74 dX2_takeLegs_72 rfl rfl ?_
        refine I_iald 75 dX2_takeLegs_74 rfl (fun v74 => ?_)
        refine I_istore 77 [(5, .int v74), (9, .int v62), (8, .ref v46), (0, .ref x0), (1, .ref x1), (6, .int x6), (7, .int x7)] dX2_takeLegs_75 rfl (by decide) rfl ?_
        refine I_aload_n 3 78 dX2_takeLegs_77 rfl rfl rfl ?_
        refine I_aload 2 80 dX2_takeLegs_78 rfl rfl ?_
        refine I_iload 1 82 dX2_takeLegs_80 rfl rfl ?_
        refine I_callVi (As := [.ref v46, .int v62]) (rest := []) 85 (C_X2_sortedAt hst x0 v46 v62) dX2_takeLegs_82 rfl cl3 rfl (by decide) (Nat.le_of_ble_eq_true rfl) wcd_249 win_34 wml_250 wim_251 wse_252 ⟨by decide, by decide, pd_X2_sortedAt⟩ (fun x hx => by cases hx) (fun v82 => ?_)
        refine I_istore 87 [(6, .int v82), (5, .int v74), (9, .int v62), (8, .ref v46), (0, .ref x0), (1, .ref x1), (7, .int x7)] dX2_takeLegs_85 rfl (by decide) rfl ?_
        refine I_iinc 90 (x7 + (-1)) [(7, .int (x7 + (-1))), (6, .int v82), (5, .int v74), (9, .int v62), (8, .ref v46), (0, .ref x0), (1, .ref x1)] 6 dX2_takeLegs_87 rfl rfl rfl (by decide) rfl ?_
        refine I_goto 12 dX2_takeLegs_90 rfl ?_
        refine I_sub [(0, .ref x0), (1, .ref x1), (5, .int v74), (6, .int v82), (7, .int (x7 + (-1)))] [5, 6, 2, 1, 0] rfl ?_
        exact ih v74 v82 (x7 + (-1))
def f_X2_takeLegs (t0 mi : Nat) (x0 : Nat) (x1 : Nat) (x2 : Int32) (x3 : Int32) (x4 : Int32) : Mo Unit :=
    X2_takeLegs_L12 t0 mi x0 x1 (rt ()) FU x2 x3 (x4 - (1 : Int32))
set_option maxRecDepth 20000 in
theorem I_X2_takeLegs {l : Launch} {g : GX} (hst : l.stackTraces = false) (x0 : Nat) (x1 : Nat) (x2 : Int32) (x3 : Int32) (x4 : Int32) : I l g M_X2_takeLegs cvU 0 [(0, .ref x0), (1, .ref x1), (2, .int x2), (3, .int x3), (4, .int x4)] [] (f_X2_takeLegs (gt0 g) (gmi g) x0 x1 x2 x3 x4) := by
  unfold f_X2_takeLegs
  refine I_iload_n 2 1 dX2_takeLegs_0 rfl rfl rfl ?_
  refine I_istore 3 [(5, .int x2), (0, .ref x0), (1, .ref x1), (2, .int x2), (3, .int x3), (4, .int x4)] dX2_takeLegs_1 rfl (by decide) rfl ?_
  refine I_iload_n 4 4 dX2_takeLegs_3 rfl rfl rfl ?_
  refine I_istore 6 [(6, .int x3), (5, .int x2), (0, .ref x0), (1, .ref x1), (2, .int x2), (3, .int x3), (4, .int x4)] dX2_takeLegs_4 rfl (by decide) rfl ?_
  refine I_iload 6 8 dX2_takeLegs_6 rfl rfl ?_
  refine I_iconst (1 : Int32) 9 dX2_takeLegs_8 rfl (by decide) ?_
  refine I_isub 10 dX2_takeLegs_9 rfl ?_
  refine I_istore 12 [(7, .int (x4 - (1 : Int32))), (6, .int x3), (5, .int x2), (0, .ref x0), (1, .ref x1), (2, .int x2), (3, .int x3), (4, .int x4)] dX2_takeLegs_10 rfl (by decide) rfl ?_
  refine I_sub [(0, .ref x0), (1, .ref x1), (5, .int x2), (6, .int x3), (7, .int (x4 - (1 : Int32)))] [3, 4, 2, 1, 0] rfl ?_
  refine I_X2_takeLegs_L12 hst x0 x1 _ ?_ FU x2 x3 (x4 - (1 : Int32))
  exact I_vret dX2_takeLegs_93 rfl
theorem C_X2_takeLegs {l : Launch} {g : GX} (hst : l.stackTraces = false) (x0 : Nat) (x1 : Nat) (x2 : Int32) (x3 : Int32) (x4 : Int32) : Cs l g M_X2_takeLegs cvU [.ref x0, .ref x1, .int x2, .int x3, .int x4] (f_X2_takeLegs (gt0 g) (gmi g) x0 x1 x2 x3 x4) :=
  Cs_of_I [(0, .ref x0), (1, .ref x1), (2, .int x2), (3, .int x3), (4, .int x4)] rfl (by decide) hst (Nat.le_of_ble_eq_true rfl) rfl (I_X2_takeLegs hst x0 x1 x2 x3 x4)
/-! LunchMarks$Trip.endWayAt(I)V -/
abbrev M_X4_endWayAt : MS := (yX4_endWayAt, cX4_endWayAt, 2, none, [], 0, 0)
theorem pd_X4_endWayAt : (parseMethodDescriptor (mY M_X4_endWayAt).desc).map (fun d => d.parameters.length) = some 1 := by decide +kernel
def f_X4_endWayAt (t0 mi : Nat) (x0 : Nat) (x1 : Int32) : Mo Unit :=
    bnd (pZ x0 5 8 (1 : Int32)) fun _ =>
    bnd (pV x0 5 9 (.int x1)) fun _ =>
    bnd (pV x0 5 10 (.int (-1 : Int32))) fun _ =>
    bnd (pV x0 5 11 (.int (-1 : Int32))) fun _ =>
    rt ()
set_option maxRecDepth 20000 in
theorem I_X4_endWayAt {l : Launch} {g : GX} (hst : l.stackTraces = false) (x0 : Nat) (x1 : Int32) : I l g M_X4_endWayAt cvU 0 [(0, .ref x0), (1, .int x1)] [] (f_X4_endWayAt (gt0 g) (gmi g) x0 x1) := by
  unfold f_X4_endWayAt
  refine I_aload_n 0 1 dX4_endWayAt_0 rfl rfl rfl ?_
  refine I_iconst (1 : Int32) 2 dX4_endWayAt_1 rfl (by decide) ?_
  refine I_putZ 5 dX4_endWayAt_2 rfl cl5 (by decide) wfl_220 sameF_rfl rfl rfl ?_
  refine I_aload_n 0 6 dX4_endWayAt_5 rfl rfl rfl ?_
  refine I_iload_n 1 7 dX4_endWayAt_6 rfl rfl rfl ?_
  refine I_put 10 dX4_endWayAt_7 rfl cl5 (by decide) wfl_221 sameF_rfl rfl rfl rfl ?_
  refine I_aload_n 0 11 dX4_endWayAt_10 rfl rfl rfl ?_
  refine I_iconst (-1 : Int32) 12 dX4_endWayAt_11 rfl (by decide) ?_
  refine I_put 15 dX4_endWayAt_12 rfl cl5 (by decide) wfl_222 sameF_rfl rfl rfl rfl ?_
  refine I_aload_n 0 16 dX4_endWayAt_15 rfl rfl rfl ?_
  refine I_iconst (-1 : Int32) 17 dX4_endWayAt_16 rfl (by decide) ?_
  refine I_put 20 dX4_endWayAt_17 rfl cl5 (by decide) wfl_223 sameF_rfl rfl rfl rfl ?_
  exact I_vret dX4_endWayAt_20 rfl
theorem C_X4_endWayAt {l : Launch} {g : GX} (hst : l.stackTraces = false) (x0 : Nat) (x1 : Int32) : Cs l g M_X4_endWayAt cvU [.ref x0, .int x1] (f_X4_endWayAt (gt0 g) (gmi g) x0 x1) :=
  Cs_of_I [(0, .ref x0), (1, .int x1)] rfl (by decide) hst (Nat.le_of_ble_eq_true rfl) rfl (I_X4_endWayAt hst x0 x1)
/-! LunchMarks$Network.leadOn(LLunchMarks$Trip;II)Z -/
abbrev M_X2_leadOn : MS := (yX2_leadOn, cX2_leadOn, 6, (some .boolean), [], 5, 121)
theorem pd_X2_leadOn : (parseMethodDescriptor (mY M_X2_leadOn).desc).map (fun d => d.parameters.length) = some 3 := by decide +kernel
def f_X2_leadOn (t0 mi : Nat) (x0 : Nat) (x1 : Nat) (x2 : Int32) (x3 : Int32) : Mo Int32 :=
    bnd (gI x1 5 3) fun v4 =>
    bnd (gI x1 5 7) fun v9 =>
    bnd (vc x0 3 (f_X2_legsOfTheWay t0 mi x0 x2 x3 v4 ((3 : Int32) - v9))) fun v13 =>
    (if v13 = (-1 : Int32) then
    rtZ (0 : Int32)
    else
    bnd (gA' x0 3 3) fun v27 =>
    bnd (ldR 4 v27 v13) fun v32 =>
    bnd (gI x1 5 3) fun v34 =>
    bnd (ldK 0 v32 v34) fun v37 =>
    bnd (gI x1 5 3) fun v42 =>
    bnd (vc x0 3 (f_X2_findLatest t0 mi x0 v42 v37 v13)) fun _ =>
    bnd (vc x0 3 (f_X2_takeLegs t0 mi x0 x1 x2 x3 v13)) fun _ =>
    bnd (vc x1 5 (f_X4_endWayAt t0 mi x1 v37)) fun _ =>
    rtZ (1 : Int32))
set_option maxRecDepth 20000 in
theorem I_X2_leadOn {l : Launch} {g : GX} (hst : l.stackTraces = false) (x0 : Nat) (x1 : Nat) (x2 : Int32) (x3 : Int32) : I l g M_X2_leadOn cvI 0 [(0, .ref x0), (1, .ref x1), (2, .int x2), (3, .int x3)] [] (f_X2_leadOn (gt0 g) (gmi g) x0 x1 x2 x3) := by
  unfold f_X2_leadOn
  refine I_aload_n 0 1 dX2_leadOn_0 rfl rfl rfl ?_
  refine I_iload_n 2 2 dX2_leadOn_1 rfl rfl rfl ?_
  refine I_iload_n 3 3 dX2_leadOn_2 rfl rfl rfl ?_
  refine I_aload_n 1 4 dX2_leadOn_3 rfl rfl rfl ?_
  refine I_getI 7 dX2_leadOn_4 rfl cl5 (by decide) wfl_294 sameF_rfl (fun v4 => ?_)
  refine I_iconst (3 : Int32) 8 dX2_leadOn_7 rfl (by decide) ?_
  refine I_aload_n 1 9 dX2_leadOn_8 rfl rfl rfl ?_
  refine I_getI 12 dX2_leadOn_9 rfl cl5 (by decide) wfl_289 sameF_rfl (fun v9 => ?_)
  refine I_isub 13 dX2_leadOn_12 rfl ?_
  refine I_callVi (As := [.int x2, .int x3, .int v4, .int ((3 : Int32) - v9)]) (rest := []) 16 (C_X2_legsOfTheWay hst x0 x2 x3 v4 ((3 : Int32) - v9)) dX2_leadOn_13 rfl cl3 rfl (by decide) (Nat.le_of_ble_eq_true rfl) wcd_295 win_34 wml_296 wim_297 wse_298 ⟨by decide, by decide, pd_X2_legsOfTheWay⟩ (fun x hx => by cases hx) (fun v13 => ?_)
  refine I_istore 18 [(4, .int v13), (0, .ref x0), (1, .ref x1), (2, .int x2), (3, .int x3)] dX2_leadOn_16 rfl (by decide) rfl ?_
  refine I_iload 0 20 dX2_leadOn_18 rfl rfl ?_
  refine I_iconst (-1 : Int32) 21 dX2_leadOn_20 rfl (by decide) ?_
  refine I_icmp_ne 26 24 dX2_leadOn_21 rfl rfl (fun _ => ?_) (fun _ => ?_)
  · refine I_iconst (0 : Int32) 25 dX2_leadOn_24 rfl (by decide) ?_
    exact I_zret dX2_leadOn_25 rfl
  · refine I_aload_n 1 27 dX2_leadOn_26 rfl rfl rfl ?_
    refine I_getA 30 dX2_leadOn_27 rfl cl3 (by decide) wfl_26 sameF_rfl (fun v27 => ?_)
    refine I_iload 0 32 dX2_leadOn_30 rfl rfl ?_
    refine I_aald4 33 dX2_leadOn_32 rfl (fun v32 => ?_)
    refine I_aload_n 2 34 dX2_leadOn_33 rfl rfl rfl ?_
    refine I_getI 37 dX2_leadOn_34 rfl cl5 (by decide) wfl_294 sameF_rfl (fun v34 => ?_)
    refine I_iald 38 dX2_leadOn_37 rfl (fun v37 => ?_)
    refine I_istore 40 [(5, .int v37), (4, .int v13), (0, .ref x0), (1, .ref x1), (2, .int x2), (3, .int x3)] dX2_leadOn_38 rfl (by decide) rfl ?_
    refine I_aload_n 2 41 dX2_leadOn_40 rfl rfl rfl ?_
    refine I_aload_n 3 42 dX2_leadOn_41 rfl rfl rfl ?_
    refine I_getI 45 dX2_leadOn_42 rfl cl5 (by decide) wfl_294 sameF_rfl (fun v42 => ?_)
    refine I_iload 0 47 dX2_leadOn_45 rfl rfl ?_
    refine I_iload 1 49 dX2_leadOn_47 rfl rfl ?_
    refine I_callVv (As := [.int v42, .int v37, .int v13]) (rest := []) 52 (C_X2_findLatest hst x0 v42 v37 v13) dX2_leadOn_49 rfl cl3 rfl (by decide) (Nat.le_of_ble_eq_true rfl) wcd_299 win_34 wml_300 wim_301 wse_302 ⟨by decide, by decide, pd_X2_findLatest⟩ (fun x hx => by cases hx) (fun _ => ?_)
    refine I_aload_n 2 53 dX2_leadOn_52 rfl rfl rfl ?_
    refine I_aload_n 3 54 dX2_leadOn_53 rfl rfl rfl ?_
    refine I_iload_n 4 55 dX2_leadOn_54 rfl rfl rfl ?_
    refine I_iload_n 5 56 dX2_leadOn_55 rfl rfl rfl ?_
    refine I_iload 1 58 dX2_leadOn_56 rfl rfl ?_
    refine I_callVv (As := [.ref x1, .int x2, .int x3, .int v13]) (rest := []) 61 (C_X2_takeLegs hst x0 x1 x2 x3 v13) dX2_leadOn_58 rfl cl3 rfl (by decide) (Nat.le_of_ble_eq_true rfl) wcd_303 win_34 wml_304 wim_305 wse_306 ⟨by decide, by decide, pd_X2_takeLegs⟩ (fun x hx => by cases hx) (fun _ => ?_)
    refine I_aload_n 3 62 dX2_leadOn_61 rfl rfl rfl ?_
    refine I_iload 0 64 dX2_leadOn_62 rfl rfl ?_
    refine I_callVv (As := [.int v37]) (rest := []) 67 (C_X4_endWayAt hst x1 v37) dX2_leadOn_64 rfl cl5 rfl (by decide) (Nat.le_of_ble_eq_true rfl) wcd_307 win_233 wml_308 wim_309 wse_310 ⟨by decide, by decide, pd_X4_endWayAt⟩ (fun x hx => by cases hx) (fun _ => ?_)
    refine I_iconst (1 : Int32) 68 dX2_leadOn_67 rfl (by decide) ?_
    exact I_zret dX2_leadOn_68 rfl
theorem C_X2_leadOn {l : Launch} {g : GX} (hst : l.stackTraces = false) (x0 : Nat) (x1 : Nat) (x2 : Int32) (x3 : Int32) : Cs l g M_X2_leadOn cvI [.ref x0, .ref x1, .int x2, .int x3] (f_X2_leadOn (gt0 g) (gmi g) x0 x1 x2 x3) :=
  Cs_of_I [(0, .ref x0), (1, .ref x1), (2, .int x2), (3, .int x3)] rfl (by decide) hst (Nat.le_of_ble_eq_true rfl) rfl (I_X2_leadOn hst x0 x1 x2 x3)
/-! LunchMarks$Network.beginning(LLunchMarks$Trip;)I -/
abbrev M_X2_beginning : MS := (yX2_beginning, cX2_beginning, 2, (some .int), [], 0, 0)
theorem pd_X2_beginning : (parseMethodDescriptor (mY M_X2_beginning).desc).map (fun d => d.parameters.length) = some 1 := by decide +kernel
def f_X2_beginning (t0 mi : Nat) (x0 : Nat) (x1 : Nat) : Mo Int32 :=
    bnd (gI x1 5 2) fun v1 =>
    bnd (gI x1 5 1) fun v5 =>
    bnd (gA' x0 3 0) fun v10 =>
    bnd (gI x1 5 0) fun v14 =>
    bnd (ldK 0 v10 v14) fun v17 =>
    rt ((v1 + v5) + v17)
set_option maxRecDepth 20000 in
theorem I_X2_beginning {l : Launch} {g : GX} (hst : l.stackTraces = false) (x0 : Nat) (x1 : Nat) : I l g M_X2_beginning cvI 0 [(0, .ref x0), (1, .ref x1)] [] (f_X2_beginning (gt0 g) (gmi g) x0 x1) := by
  unfold f_X2_beginning
  refine I_aload_n 1 1 dX2_beginning_0 rfl rfl rfl ?_
  refine I_getI 4 dX2_beginning_1 rfl cl5 (by decide) wfl_311 sameF_rfl (fun v1 => ?_)
  refine I_aload_n 1 5 dX2_beginning_4 rfl rfl rfl ?_
  refine I_getI 8 dX2_beginning_5 rfl cl5 (by decide) wfl_312 sameF_rfl (fun v5 => ?_)
  refine I_iadd 9 dX2_beginning_8 rfl ?_
  refine I_aload_n 0 10 dX2_beginning_9 rfl rfl rfl ?_
  refine I_getA 13 dX2_beginning_10 rfl cl3 (by decide) wfl_16 sameF_rfl (fun v10 => ?_)
  refine I_aload_n 1 14 dX2_beginning_13 rfl rfl rfl ?_
  refine I_getI 17 dX2_beginning_14 rfl cl5 (by decide) wfl_313 sameF_rfl (fun v14 => ?_)
  refine I_iald 18 dX2_beginning_17 rfl (fun v17 => ?_)
  refine I_iadd 19 dX2_beginning_18 rfl ?_
  exact I_iret dX2_beginning_19 rfl
theorem C_X2_beginning {l : Launch} {g : GX} (hst : l.stackTraces = false) (x0 : Nat) (x1 : Nat) : Cs l g M_X2_beginning cvI [.ref x0, .ref x1] (f_X2_beginning (gt0 g) (gmi g) x0 x1) :=
  Cs_of_I [(0, .ref x0), (1, .ref x1)] rfl (by decide) hst (Nat.le_of_ble_eq_true rfl) rfl (I_X2_beginning hst x0 x1)
/-! LunchMarks.leadByPlan(LLunchMarks$Trip;)Z -/
abbrev M_X5_leadByPlan : MS := (yX5_leadByPlan, cX5_leadByPlan, 2, (some .boolean), [], 6, 146)
theorem pd_X5_leadByPlan : (parseMethodDescriptor (mY M_X5_leadByPlan).desc).map (fun d => d.parameters.length) = some 1 := by decide +kernel
def X5_leadByPlan_b49 (t0 mi : Nat) : Mo Int32 :=
    rtZ (0 : Int32)
set_option maxRecDepth 20000 in
theorem I_X5_leadByPlan_b49 {l : Launch} {g : GX} (hst : l.stackTraces = false) : I l g M_X5_leadByPlan cvI 49 [] [] (X5_leadByPlan_b49 (gt0 g) (gmi g)) := by
  unfold X5_leadByPlan_b49
  refine I_iconst (0 : Int32) 50 dX5_leadByPlan_49 rfl (by decide) ?_
  exact I_zret dX5_leadByPlan_50 rfl
def f_X5_leadByPlan (t0 mi : Nat) (x0 : Nat) (x1 : Nat) : Mo Int32 :=
    bnd (vc x1 5 (f_X4_stands t0 mi x1)) fun v1 =>
    (if v1 = 0 then
    bnd (gI x1 5 8) fun v32 =>
    (if v32 = 0 then
    bnd (gI x1 5 2) fun v39 =>
    bnd (gI x0 6 4) fun v43 =>
    (if v43 ≤ v39 then
    bnd (gA' x0 6 0) fun v52 =>
    bnd (gI x1 5 0) fun v57 =>
    bnd (gA' x0 6 0) fun v61 =>
    bnd (vc v61 3 (f_X2_beginning t0 mi v61 x1)) fun v65 =>
    bnd (vc v52 3 (f_X2_leadOn t0 mi v52 x1 v57 v65)) fun v68 =>
    rtZ v68
    else
    X5_leadByPlan_b49 t0 mi)
    else
    X5_leadByPlan_b49 t0 mi)
    else
    bnd (gA' x0 6 0) fun v8 =>
    bnd (gI x1 5 10) fun v13 =>
    bnd (gI x1 5 11) fun v17 =>
    bnd (gI x0 6 4) fun v21 =>
    bnd (vc v8 3 (f_X2_leadOn t0 mi v8 x1 v13 (mx v17 v21))) fun v27 =>
    rtZ v27)
set_option maxRecDepth 20000 in
theorem I_X5_leadByPlan {l : Launch} {g : GX} (hst : l.stackTraces = false) (x0 : Nat) (x1 : Nat) : I l g M_X5_leadByPlan cvI 0 [(0, .ref x0), (1, .ref x1)] [] (f_X5_leadByPlan (gt0 g) (gmi g) x0 x1) := by
  unfold f_X5_leadByPlan
  refine I_aload_n 1 1 dX5_leadByPlan_0 rfl rfl rfl ?_
  refine I_callVi (As := []) (rest := []) 4 (C_X4_stands hst x1) dX5_leadByPlan_1 rfl cl5 rfl (by decide) (Nat.le_of_ble_eq_true rfl) wcd_314 win_233 wml_315 wim_316 wse_317 ⟨by decide, by decide, pd_X4_stands⟩ (fun x hx => by cases hx) (fun v1 => ?_)
  refine I_if_eq 31 7 dX5_leadByPlan_4 rfl rfl (fun _ => ?_) (fun _ => ?_)
  · refine I_aload_n 1 32 dX5_leadByPlan_31 rfl rfl rfl ?_
    refine I_getI 35 dX5_leadByPlan_32 rfl cl5 (by decide) wfl_318 sameF_rfl (fun v32 => ?_)
    refine I_if_ne 49 38 dX5_leadByPlan_35 rfl rfl (fun _ => ?_) (fun _ => ?_)
    · refine I_aload_n 1 39 dX5_leadByPlan_38 rfl rfl rfl ?_
      refine I_getI 42 dX5_leadByPlan_39 rfl cl5 (by decide) wfl_319 sameF_rfl (fun v39 => ?_)
      refine I_aload_n 0 43 dX5_leadByPlan_42 rfl rfl rfl ?_
      refine I_getI 46 dX5_leadByPlan_43 rfl cl6 (by decide) wfl_50 sameF_rfl (fun v43 => ?_)
      refine I_icmp_ge 51 49 dX5_leadByPlan_46 rfl rfl (fun _ => ?_) (fun _ => ?_)
      · refine I_aload_n 0 52 dX5_leadByPlan_51 rfl rfl rfl ?_
        refine I_getA 55 dX5_leadByPlan_52 rfl cl6 (by decide) wfl_38 sameF_rfl (fun v52 => ?_)
        refine I_aload_n 1 56 dX5_leadByPlan_55 rfl rfl rfl ?_
        refine I_aload_n 1 57 dX5_leadByPlan_56 rfl rfl rfl ?_
        refine I_getI 60 dX5_leadByPlan_57 rfl cl5 (by decide) wfl_320 sameF_rfl (fun v57 => ?_)
        refine I_aload_n 0 61 dX5_leadByPlan_60 rfl rfl rfl ?_
        refine I_getA 64 dX5_leadByPlan_61 rfl cl6 (by decide) wfl_38 sameF_rfl (fun v61 => ?_)
        refine I_aload_n 1 65 dX5_leadByPlan_64 rfl rfl rfl ?_
        refine I_callVi (As := [.ref x1]) (rest := [.int v57, .ref x1, .ref v52]) 68 (C_X2_beginning hst v61 x1) dX5_leadByPlan_65 rfl cl3 rfl (by decide) (Nat.le_of_ble_eq_true rfl) wcd_321 win_34 wml_322 wim_323 wse_324 ⟨by decide, by decide, pd_X2_beginning⟩ (fun x hx => by cases hx) (fun v65 => ?_)
        refine I_callVi (As := [.ref x1, .int v57, .int v65]) (rest := []) 71 (C_X2_leadOn hst v52 x1 v57 v65) dX5_leadByPlan_68 rfl cl3 rfl (by decide) (Nat.le_of_ble_eq_true rfl) wcd_325 win_34 wml_326 wim_327 wse_328 ⟨by decide, by decide, pd_X2_leadOn⟩ (fun x hx => by cases hx) (fun v68 => ?_)
        exact I_zret dX5_leadByPlan_71 rfl
      · refine I_sub [] [] rfl ?_
        exact I_X5_leadByPlan_b49 hst
    · refine I_sub [] [] rfl ?_
      exact I_X5_leadByPlan_b49 hst
  · refine I_aload_n 0 8 dX5_leadByPlan_7 rfl rfl rfl ?_
    refine I_getA 11 dX5_leadByPlan_8 rfl cl6 (by decide) wfl_38 sameF_rfl (fun v8 => ?_)
    refine I_aload_n 1 12 dX5_leadByPlan_11 rfl rfl rfl ?_
    refine I_aload_n 1 13 dX5_leadByPlan_12 rfl rfl rfl ?_
    refine I_getI 16 dX5_leadByPlan_13 rfl cl5 (by decide) wfl_329 sameF_rfl (fun v13 => ?_)
    refine I_aload_n 1 17 dX5_leadByPlan_16 rfl rfl rfl ?_
    refine I_getI 20 dX5_leadByPlan_17 rfl cl5 (by decide) wfl_330 sameF_rfl (fun v17 => ?_)
    refine I_aload_n 0 21 dX5_leadByPlan_20 rfl rfl rfl ?_
    refine I_getI 24 dX5_leadByPlan_21 rfl cl6 (by decide) wfl_50 sameF_rfl (fun v21 => ?_)
    refine I_mmax 27 dX5_leadByPlan_24 rfl wml_331 (by decide) (Nat.le_of_ble_eq_true rfl) ?_
    refine I_callVi (As := [.ref x1, .int v13, .int (mx v17 v21)]) (rest := []) 30 (C_X2_leadOn hst v8 x1 v13 (mx v17 v21)) dX5_leadByPlan_27 rfl cl3 rfl (by decide) (Nat.le_of_ble_eq_true rfl) wcd_325 win_34 wml_326 wim_327 wse_328 ⟨by decide, by decide, pd_X2_leadOn⟩ (fun x hx => by cases hx) (fun v27 => ?_)
    exact I_zret dX5_leadByPlan_30 rfl
theorem C_X5_leadByPlan {l : Launch} {g : GX} (hst : l.stackTraces = false) (x0 : Nat) (x1 : Nat) : Cs l g M_X5_leadByPlan cvI [.ref x0, .ref x1] (f_X5_leadByPlan (gt0 g) (gmi g) x0 x1) :=
  Cs_of_I [(0, .ref x0), (1, .ref x1)] rfl (by decide) hst (Nat.le_of_ble_eq_true rfl) rfl (I_X5_leadByPlan hst x0 x1)
/-! LunchMarks.plan()I -/
abbrev M_X5_plan : MS := (yX5_plan, cX5_plan, 3, (some .int), [], 7, 167)
theorem pd_X5_plan : (parseMethodDescriptor (mY M_X5_plan).desc).map (fun d => d.parameters.length) = some 0 := by decide +kernel
def X5_plan_b39 (t0 mi : Nat) (kh4 : Int32 → Int32 → Mo Int32) (x0 : Nat) (x1 : Int32) (x2 : Int32) : Mo Int32 :=
    kh4 x1 (x2 + 1)
set_option maxRecDepth 20000 in
theorem I_X5_plan_b39 {l : Launch} {g : GX} (hst : l.stackTraces = false) (x0 : Nat) (x1 : Int32) (x2 : Int32) (kh4 : Int32 → Int32 → Mo Int32) (hkh4 : ∀ (z1 : Int32) (z2 : Int32), I l g M_X5_plan cvI 4 [(0, .ref x0), (1, .int z1), (2, .int z2)] [] (kh4 z1 z2)) : I l g M_X5_plan cvI 39 [(0, .ref x0), (1, .int x1), (2, .int x2)] [] (X5_plan_b39 (gt0 g) (gmi g) kh4 x0 x1 x2) := by
  unfold X5_plan_b39
  refine I_iinc 42 (x2 + 1) [(2, .int (x2 + 1)), (0, .ref x0), (1, .int x1)] 2 dX5_plan_39 rfl rfl rfl (by decide) rfl ?_
  refine I_goto 4 dX5_plan_42 rfl ?_
  refine I_sub [(0, .ref x0), (1, .int x1), (2, .int (x2 + 1))] [1, 2, 0] rfl ?_
  exact hkh4 x1 (x2 + 1)
def X5_plan_L4 (t0 mi : Nat) (x0 : Nat) (kx : Int32 → Mo Int32) : Nat → Int32 → Int32 → Mo Int32
  | 0, _, _ => flr
  | n + 1, x1, x2 =>
    bnd (gA' x0 6 1) fun v6 =>
    bnd (vc v6 0 (f_Jx4a65c_size_8abf5 t0 mi v6)) fun v9 =>
    (if v9 ≤ x2 then
    kx x1
    else
    bnd (gA' x0 6 1) fun v17 =>
    bnd (vc v17 0 (f_Jx4a65c_get_915e3 t0 mi v17 x2)) fun v21 =>
    bnd (isC v21 1) fun _ =>
    bnd (vc v21 1 (f_X0_current t0 mi v21)) fun v27 =>
    bnd (vc x0 6 (f_X5_leadByPlan t0 mi x0 v27)) fun v30 =>
    (if v30 = 0 then
    X5_plan_b39 t0 mi (X5_plan_L4 t0 mi x0 kx n) x0 x1 x2
    else
    X5_plan_b39 t0 mi (X5_plan_L4 t0 mi x0 kx n) x0 (x1 + 1) x2))
set_option maxRecDepth 20000 in
theorem I_X5_plan_L4 {l : Launch} {g : GX} (hst : l.stackTraces = false) (x0 : Nat) (kx : Int32 → Mo Int32) (hkx : ∀ (z1 : Int32), I l g M_X5_plan cvI 45 [(1, .int z1)] [] (kx z1)) : ∀ (n : Nat) (x1 : Int32) (x2 : Int32), I l g M_X5_plan cvI 4 [(0, .ref x0), (1, .int x1), (2, .int x2)] [] (X5_plan_L4 (gt0 g) (gmi g) x0 kx n x1 x2) := by
  intro n
  induction n with
  | zero => intro x1 x2; rw [X5_plan_L4]; exact I_flr
  | succ n ih =>
    intro x1 x2; rw [X5_plan_L4]
    refine I_iload_n 2 5 dX5_plan_4 rfl rfl rfl ?_
    refine I_aload_n 0 6 dX5_plan_5 rfl rfl rfl ?_
    refine I_getA 9 dX5_plan_6 rfl cl6 (by decide) wfl_41 sameF_rfl (fun v6 => ?_)
    refine I_callVi (As := []) (rest := [.int x2]) 12 (C_Jx4a65c_size_8abf5 hst v6) dX5_plan_9 rfl cl0 rfl (by decide) (Nat.le_of_ble_eq_true rfl) wcd_131 win_20 wml_165 wim_133 wse_134 ⟨by decide, by decide, pd_Jx4a65c_size_8abf5⟩ (fun x hx => by cases hx) (fun v9 => ?_)
    refine I_icmp_ge 45 15 dX5_plan_12 rfl rfl (fun _ => ?_) (fun _ => ?_)
    · refine I_sub [(1, .int x1)] [1] rfl ?_
      exact hkx x1
    · refine I_aload_n 0 16 dX5_plan_15 rfl rfl rfl ?_
      refine I_aload_n 0 17 dX5_plan_16 rfl rfl rfl ?_
      refine I_getA 20 dX5_plan_17 rfl cl6 (by decide) wfl_41 sameF_rfl (fun v17 => ?_)
      refine I_iload_n 2 21 dX5_plan_20 rfl rfl rfl ?_
      refine I_callVa (As := [.int x2]) (rest := [.ref x0]) 24 (C_Jx4a65c_get_915e3 hst v17 x2) dX5_plan_21 rfl cl0 rfl (by decide) (Nat.le_of_ble_eq_true rfl) wcd_166 win_20 wml_167 wim_168 wse_169 ⟨by decide, by decide, pd_Jx4a65c_get_915e3⟩ (fun x hx => by cases hx) (fun v21 => ?_)
      refine I_cast 27 dX5_plan_24 rfl cl1 wcl_228 ?_
      refine I_callVa (As := []) (rest := [.ref x0]) 30 (C_X0_current hst v21) dX5_plan_27 rfl cl1 rfl (by decide) (Nat.le_of_ble_eq_true rfl) wcd_332 win_230 wml_333 wim_334 wse_335 ⟨by decide, by decide, pd_X0_current⟩ (fun x hx => by cases hx) (fun v27 => ?_)
      refine I_callVi (As := [.ref v27]) (rest := []) 33 (C_X5_leadByPlan hst x0 v27) dX5_plan_30 rfl cl6 rfl (by decide) (Nat.le_of_ble_eq_true rfl) wcd_336 win_81 wml_337 wim_338 wse_339 ⟨by decide, by decide, pd_X5_leadByPlan⟩ (fun x hx => by cases hx) (fun v30 => ?_)
      refine I_if_eq 39 36 dX5_plan_33 rfl rfl (fun _ => ?_) (fun _ => ?_)
      · refine I_sub [(0, .ref x0), (1, .int x1), (2, .int x2)] [0, 1, 2] rfl ?_
        exact I_X5_plan_b39 hst x0 x1 x2 _ ih
      · refine I_iinc 39 (x1 + 1) [(1, .int (x1 + 1)), (0, .ref x0), (2, .int x2)] 1 dX5_plan_36 rfl rfl rfl (by decide) rfl ?_
        refine I_sub [(0, .ref x0), (1, .int (x1 + 1)), (2, .int x2)] [1, 0, 2] rfl ?_
        exact I_X5_plan_b39 hst x0 (x1 + 1) x2 _ ih
def f_X5_plan (t0 mi : Nat) (x0 : Nat) : Mo Int32 :=
    X5_plan_L4 t0 mi x0 (fun y1_1 =>
    rt y1_1) FU (0 : Int32) (0 : Int32)
set_option maxRecDepth 20000 in
theorem I_X5_plan {l : Launch} {g : GX} (hst : l.stackTraces = false) (x0 : Nat) : I l g M_X5_plan cvI 0 [(0, .ref x0)] [] (f_X5_plan (gt0 g) (gmi g) x0) := by
  unfold f_X5_plan
  refine I_iconst (0 : Int32) 1 dX5_plan_0 rfl (by decide) ?_
  refine I_istore_n 2 [(1, .int (0 : Int32)), (0, .ref x0)] dX5_plan_1 rfl rfl (by decide) rfl ?_
  refine I_iconst (0 : Int32) 3 dX5_plan_2 rfl (by decide) ?_
  refine I_istore_n 4 [(2, .int (0 : Int32)), (1, .int (0 : Int32)), (0, .ref x0)] dX5_plan_3 rfl rfl (by decide) rfl ?_
  refine I_sub [(0, .ref x0), (1, .int (0 : Int32)), (2, .int (0 : Int32))] [2, 1, 0] rfl ?_
  refine I_X5_plan_L4 hst x0 _ (fun y1_1 => ?_) FU (0 : Int32) (0 : Int32)
  refine I_iload_n 0 46 dX5_plan_45 rfl rfl rfl ?_
  exact I_iret dX5_plan_46 rfl
theorem C_X5_plan {l : Launch} {g : GX} (hst : l.stackTraces = false) (x0 : Nat) : Cs l g M_X5_plan cvI [.ref x0] (f_X5_plan (gt0 g) (gmi g) x0) :=
  Cs_of_I [(0, .ref x0)] rfl (by decide) hst (Nat.le_of_ble_eq_true rfl) rfl (I_X5_plan hst x0)
/-! LunchMarksModel.wayOf(I)I -/
abbrev M_X6_wayOf : MS := (yX6_wayOf, cX6_wayOf, 2, (some .int), [], 0, 0)
theorem pd_X6_wayOf : (parseMethodDescriptor (mY M_X6_wayOf).desc).map (fun d => d.parameters.length) = some 1 := by decide +kernel
def X6_wayOf_b17 (t0 mi : Nat) (s0 : Int32) (s1 : Int32) : Mo Int32 :=
    rt (s1 + s0)
set_option maxRecDepth 20000 in
theorem I_X6_wayOf_b17 {l : Launch} {g : GX} (hst : l.stackTraces = false) (s0 : Int32) (s1 : Int32) : I l g M_X6_wayOf cvI 17 [] [.int s0, .int s1] (X6_wayOf_b17 (gt0 g) (gmi g) s0 s1) := by
  unfold X6_wayOf_b17
  refine I_iadd 18 dX6_wayOf_17 rfl ?_
  exact I_iret dX6_wayOf_18 rfl
def f_X6_wayOf (t0 mi : Nat) (x0 : Nat) (x1 : Int32) : Mo Int32 :=
    bnd (gA' x0 7 21) fun v4 =>
    bnd (ldK 2 v4 x1) fun v8 =>
    (if v8 = 0 then
    X6_wayOf_b17 t0 mi (0 : Int32) ((2 : Int32) * x1)
    else
    X6_wayOf_b17 t0 mi (1 : Int32) ((2 : Int32) * x1))
set_option maxRecDepth 20000 in
theorem I_X6_wayOf {l : Launch} {g : GX} (hst : l.stackTraces = false) (x0 : Nat) (x1 : Int32) : I l g M_X6_wayOf cvI 0 [(0, .ref x0), (1, .int x1)] [] (f_X6_wayOf (gt0 g) (gmi g) x0 x1) := by
  unfold f_X6_wayOf
  refine I_iconst (2 : Int32) 1 dX6_wayOf_0 rfl (by decide) ?_
  refine I_iload_n 1 2 dX6_wayOf_1 rfl rfl rfl ?_
  refine I_imul 3 dX6_wayOf_2 rfl ?_
  refine I_aload_n 0 4 dX6_wayOf_3 rfl rfl rfl ?_
  refine I_getA 7 dX6_wayOf_4 rfl cl7 (by decide) wfl_68 sameF_rfl (fun v4 => ?_)
  refine I_iload_n 1 8 dX6_wayOf_7 rfl rfl rfl ?_
  refine I_zald 9 dX6_wayOf_8 rfl (fun v8 => ?_)
  refine I_if_eq 16 12 dX6_wayOf_9 rfl rfl (fun _ => ?_) (fun _ => ?_)
  · refine I_iconst (0 : Int32) 17 dX6_wayOf_16 rfl (by decide) ?_
    refine I_sub [] [] rfl ?_
    exact I_X6_wayOf_b17 hst (0 : Int32) ((2 : Int32) * x1)
  · refine I_iconst (1 : Int32) 13 dX6_wayOf_12 rfl (by decide) ?_
    refine I_goto 17 dX6_wayOf_13 rfl ?_
    refine I_sub [] [] rfl ?_
    exact I_X6_wayOf_b17 hst (1 : Int32) ((2 : Int32) * x1)
theorem C_X6_wayOf {l : Launch} {g : GX} (hst : l.stackTraces = false) (x0 : Nat) (x1 : Int32) : Cs l g M_X6_wayOf cvI [.ref x0, .int x1] (f_X6_wayOf (gt0 g) (gmi g) x0 x1) :=
  Cs_of_I [(0, .ref x0), (1, .int x1)] rfl (by decide) hst (Nat.le_of_ble_eq_true rfl) rfl (I_X6_wayOf hst x0 x1)
/-! LunchMarksModel.toOf(I)I -/
abbrev M_X6_toOf : MS := (yX6_toOf, cX6_toOf, 2, (some .int), [], 0, 0)
theorem pd_X6_toOf : (parseMethodDescriptor (mY M_X6_toOf).desc).map (fun d => d.parameters.length) = some 1 := by decide +kernel
def X6_toOf_b24 (t0 mi : Nat) (s0 : Int32) : Mo Int32 :=
    rt s0
set_option maxRecDepth 20000 in
theorem I_X6_toOf_b24 {l : Launch} {g : GX} (hst : l.stackTraces = false) (s0 : Int32) : I l g M_X6_toOf cvI 24 [] [.int s0] (X6_toOf_b24 (gt0 g) (gmi g) s0) := by
  unfold X6_toOf_b24
  exact I_iret dX6_toOf_24 rfl
def f_X6_toOf (t0 mi : Nat) (x0 : Nat) (x1 : Int32) : Mo Int32 :=
    bnd (gA' x0 7 21) fun v1 =>
    bnd (ldK 2 v1 x1) fun v5 =>
    (if v5 = 0 then
    bnd (gA' x0 7 17) fun v19 =>
    bnd (ldK 0 v19 x1) fun v23 =>
    X6_toOf_b24 t0 mi v23
    else
    bnd (gA' x0 7 14) fun v10 =>
    bnd (ldK 0 v10 x1) fun v14 =>
    X6_toOf_b24 t0 mi v14)
set_option maxRecDepth 20000 in
theorem I_X6_toOf {l : Launch} {g : GX} (hst : l.stackTraces = false) (x0 : Nat) (x1 : Int32) : I l g M_X6_toOf cvI 0 [(0, .ref x0), (1, .int x1)] [] (f_X6_toOf (gt0 g) (gmi g) x0 x1) := by
  unfold f_X6_toOf
  refine I_aload_n 0 1 dX6_toOf_0 rfl rfl rfl ?_
  refine I_getA 4 dX6_toOf_1 rfl cl7 (by decide) wfl_68 sameF_rfl (fun v1 => ?_)
  refine I_iload_n 1 5 dX6_toOf_4 rfl rfl rfl ?_
  refine I_zald 6 dX6_toOf_5 rfl (fun v5 => ?_)
  refine I_if_eq 18 9 dX6_toOf_6 rfl rfl (fun _ => ?_) (fun _ => ?_)
  · refine I_aload_n 0 19 dX6_toOf_18 rfl rfl rfl ?_
    refine I_getA 22 dX6_toOf_19 rfl cl7 (by decide) wfl_64 sameF_rfl (fun v19 => ?_)
    refine I_iload_n 1 23 dX6_toOf_22 rfl rfl rfl ?_
    refine I_iald 24 dX6_toOf_23 rfl (fun v23 => ?_)
    refine I_sub [] [] rfl ?_
    exact I_X6_toOf_b24 hst v23
  · refine I_aload_n 0 10 dX6_toOf_9 rfl rfl rfl ?_
    refine I_getA 13 dX6_toOf_10 rfl cl7 (by decide) wfl_61 sameF_rfl (fun v10 => ?_)
    refine I_iload_n 1 14 dX6_toOf_13 rfl rfl rfl ?_
    refine I_iald 15 dX6_toOf_14 rfl (fun v14 => ?_)
    refine I_goto 24 dX6_toOf_15 rfl ?_
    refine I_sub [] [] rfl ?_
    exact I_X6_toOf_b24 hst v14
theorem C_X6_toOf {l : Launch} {g : GX} (hst : l.stackTraces = false) (x0 : Nat) (x1 : Int32) : Cs l g M_X6_toOf cvI [.ref x0, .int x1] (f_X6_toOf (gt0 g) (gmi g) x0 x1) :=
  Cs_of_I [(0, .ref x0), (1, .int x1)] rfl (by decide) hst (Nat.le_of_ble_eq_true rfl) rfl (I_X6_toOf hst x0 x1)
/-! LunchMarksModel.isFree(II)Z -/
abbrev M_X6_isFree : MS := (yX6_isFree, cX6_isFree, 3, (some .boolean), [], 1, 21)
theorem pd_X6_isFree : (parseMethodDescriptor (mY M_X6_isFree).desc).map (fun d => d.parameters.length) = some 2 := by decide +kernel
def X6_isFree_b33 (t0 mi : Nat) (s0 : Int32) : Mo Int32 :=
    rtZ s0
set_option maxRecDepth 20000 in
theorem I_X6_isFree_b33 {l : Launch} {g : GX} (hst : l.stackTraces = false) (s0 : Int32) : I l g M_X6_isFree cvI 33 [] [.int s0] (X6_isFree_b33 (gt0 g) (gmi g) s0) := by
  unfold X6_isFree_b33
  exact I_zret dX6_isFree_33 rfl
def X6_isFree_b32 (t0 mi : Nat) : Mo Int32 :=
    X6_isFree_b33 t0 mi (0 : Int32)
set_option maxRecDepth 20000 in
theorem I_X6_isFree_b32 {l : Launch} {g : GX} (hst : l.stackTraces = false) : I l g M_X6_isFree cvI 32 [] [] (X6_isFree_b32 (gt0 g) (gmi g)) := by
  unfold X6_isFree_b32
  refine I_iconst (0 : Int32) 33 dX6_isFree_32 rfl (by decide) ?_
  refine I_sub [] [] rfl ?_
  exact I_X6_isFree_b33 hst (0 : Int32)
def f_X6_isFree (t0 mi : Nat) (x0 : Nat) (x1 : Int32) (x2 : Int32) : Mo Int32 :=
    bnd (gA' x0 7 13) fun v1 =>
    bnd (ldK 2 v1 x1) fun v5 =>
    (if v5 = 0 then
    bnd (gA' x0 7 11) fun v10 =>
    bnd (f_X6_node t0 mi x1 x2) fun v15 =>
    bnd (ldK 0 v10 v15) fun v18 =>
    bnd (gA' x0 7 7) fun v20 =>
    bnd (ldK 0 v20 x1) fun v24 =>
    (if v24 ≤ v18 then
    X6_isFree_b32 t0 mi
    else
    X6_isFree_b33 t0 mi (1 : Int32))
    else
    X6_isFree_b32 t0 mi)
set_option maxRecDepth 20000 in
theorem I_X6_isFree {l : Launch} {g : GX} (hst : l.stackTraces = false) (x0 : Nat) (x1 : Int32) (x2 : Int32) : I l g M_X6_isFree cvI 0 [(0, .ref x0), (1, .int x1), (2, .int x2)] [] (f_X6_isFree (gt0 g) (gmi g) x0 x1 x2) := by
  unfold f_X6_isFree
  refine I_aload_n 0 1 dX6_isFree_0 rfl rfl rfl ?_
  refine I_getA 4 dX6_isFree_1 rfl cl7 (by decide) wfl_60 sameF_rfl (fun v1 => ?_)
  refine I_iload_n 1 5 dX6_isFree_4 rfl rfl rfl ?_
  refine I_zald 6 dX6_isFree_5 rfl (fun v5 => ?_)
  refine I_if_ne 32 9 dX6_isFree_6 rfl rfl (fun _ => ?_) (fun _ => ?_)
  · refine I_aload_n 0 10 dX6_isFree_9 rfl rfl rfl ?_
    refine I_getA 13 dX6_isFree_10 rfl cl7 (by decide) wfl_57 sameF_rfl (fun v10 => ?_)
    refine I_iload_n 1 14 dX6_isFree_13 rfl rfl rfl ?_
    refine I_iload_n 2 15 dX6_isFree_14 rfl rfl rfl ?_
    refine I_callSi (As := [.int x1, .int x2]) (rest := [.ref v10]) 18 (C_X6_node hst x1 x2) dX6_isFree_15 rfl rfl (by decide) (Nat.le_of_ble_eq_true rfl) wcd_208 win_200 wml_209 wst_210 ⟨by decide, by decide, pd_X6_node⟩ (fun x hx => by cases hx) (fun v15 => ?_)
    refine I_iald 19 dX6_isFree_18 rfl (fun v18 => ?_)
    refine I_aload_n 0 20 dX6_isFree_19 rfl rfl rfl ?_
    refine I_getA 23 dX6_isFree_20 rfl cl7 (by decide) wfl_53 sameF_rfl (fun v20 => ?_)
    refine I_iload_n 1 24 dX6_isFree_23 rfl rfl rfl ?_
    refine I_iald 25 dX6_isFree_24 rfl (fun v24 => ?_)
    refine I_icmp_ge 32 28 dX6_isFree_25 rfl rfl (fun _ => ?_) (fun _ => ?_)
    · refine I_sub [] [] rfl ?_
      exact I_X6_isFree_b32 hst
    · refine I_iconst (1 : Int32) 29 dX6_isFree_28 rfl (by decide) ?_
      refine I_goto 33 dX6_isFree_29 rfl ?_
      refine I_sub [] [] rfl ?_
      exact I_X6_isFree_b33 hst (1 : Int32)
  · refine I_sub [] [] rfl ?_
    exact I_X6_isFree_b32 hst
theorem C_X6_isFree {l : Launch} {g : GX} (hst : l.stackTraces = false) (x0 : Nat) (x1 : Int32) (x2 : Int32) : Cs l g M_X6_isFree cvI [.ref x0, .int x1, .int x2] (f_X6_isFree (gt0 g) (gmi g) x0 x1 x2) :=
  Cs_of_I [(0, .ref x0), (1, .int x1), (2, .int x2)] rfl (by decide) hst (Nat.le_of_ble_eq_true rfl) rfl (I_X6_isFree hst x0 x1 x2)
