/-! LunchMarksModel.where(I)I -/
abbrev M_X6_where : MS := (yX6_where, cX6_where, 5, (some .int), [], 4, 87)
theorem pd_X6_where : (parseMethodDescriptor (mY M_X6_where).desc).map (fun d => d.parameters.length) = some 1 := by decide +kernel
def X6_where_L36 (t0 mi : Nat) (x0 : Nat) (x1 : Int32) (x2 : Int32) (kx : Mo Int32) : Nat → Int32 → Mo Int32
  | 0, _ => flr
  | n + 1, x3 =>
    bnd (gA' x0 7 24) fun v38 =>
    bnd (ldK 0 v38 x2) fun v42 =>
    (if v42 ≤ x3 then
    kx
    else
    bnd (f_X6_legAt t0 mi x2 x3) fun v48 =>
    bnd (gI x0 7 1) fun v54 =>
    bnd (gA' x0 7 10) fun v58 =>
    bnd (gA' x0 7 27) fun v62 =>
    bnd (ldK 0 v62 v48) fun v67 =>
    bnd (gA' x0 7 28) fun v69 =>
    bnd (ldK 0 v69 v48) fun v74 =>
    bnd (f_X6_node t0 mi v67 v74) fun v75 =>
    bnd (ldK 0 v58 v75) fun v78 =>
    (if v78 ≤ v54 then
    bnd (gI x0 7 1) fun v85 =>
    bnd (gA' x0 7 10) fun v89 =>
    bnd (gA' x0 7 27) fun v93 =>
    bnd (ldK 0 v93 v48) fun v98 =>
    bnd (gA' x0 7 29) fun v100 =>
    bnd (ldK 0 v100 v48) fun v105 =>
    bnd (f_X6_node t0 mi v98 v105) fun v106 =>
    bnd (ldK 0 v89 v106) fun v109 =>
    (if v109 ≤ v85 then
    (X6_where_L36 t0 mi x0 x1 x2 kx n) (x3 + 1)
    else
    rt (2 : Int32))
    else
    rt (1 : Int32)))
set_option maxRecDepth 20000 in
theorem I_X6_where_L36 {l : Launch} {g : GX} (hst : l.stackTraces = false) (x0 : Nat) (x1 : Int32) (x2 : Int32) (kx : Mo Int32) (hkx : I l g M_X6_where cvI 121 [(0, .ref x0), (1, .int x1), (2, .int x2)] [] kx) : ∀ (n : Nat) (x3 : Int32), I l g M_X6_where cvI 36 [(0, .ref x0), (1, .int x1), (2, .int x2), (3, .int x3)] [] (X6_where_L36 (gt0 g) (gmi g) x0 x1 x2 kx n x3) := by
  intro n
  induction n with
  | zero => intro x3; rw [X6_where_L36]; exact I_flr
  | succ n ih =>
    intro x3; rw [X6_where_L36]
    refine I_iload_n 3 37 dX6_where_36 rfl rfl rfl ?_
    refine I_aload_n 0 38 dX6_where_37 rfl rfl rfl ?_
    refine I_getA 41 dX6_where_38 rfl cl7 (by decide) wfl_71 sameF_rfl (fun v38 => ?_)
    refine I_iload_n 2 42 dX6_where_41 rfl rfl rfl ?_
    refine I_iald 43 dX6_where_42 rfl (fun v42 => ?_)
    refine I_icmp_ge 121 46 dX6_where_43 rfl rfl (fun _ => ?_) (fun _ => ?_)
    · refine I_sub [(0, .ref x0), (1, .int x1), (2, .int x2)] [0, 1, 2] rfl ?_
      exact hkx
    · refine I_iload_n 2 47 dX6_where_46 rfl rfl rfl ?_
      refine I_iload_n 3 48 dX6_where_47 rfl rfl rfl ?_
      refine I_callSi (As := [.int x2, .int x3]) (rest := []) 51 (C_X6_legAt hst x2 x3) dX6_where_48 rfl rfl (by decide) (Nat.le_of_ble_eq_true rfl) wcd_374 win_200 wml_375 wst_376 ⟨by decide, by decide, pd_X6_legAt⟩ (fun x hx => by cases hx) (fun v48 => ?_)
      refine I_istore 53 [(4, .int v48), (0, .ref x0), (1, .int x1), (2, .int x2), (3, .int x3)] dX6_where_51 rfl (by decide) rfl ?_
      refine I_aload_n 1 54 dX6_where_53 rfl rfl rfl ?_
      refine I_getI 57 dX6_where_54 rfl cl7 (by decide) wfl_393 sameF_rfl (fun v54 => ?_)
      refine I_aload_n 1 58 dX6_where_57 rfl rfl rfl ?_
      refine I_getA 61 dX6_where_58 rfl cl7 (by decide) wfl_56 sameF_rfl (fun v58 => ?_)
      refine I_aload_n 1 62 dX6_where_61 rfl rfl rfl ?_
      refine I_getA 65 dX6_where_62 rfl cl7 (by decide) wfl_74 sameF_rfl (fun v62 => ?_)
      refine I_iload 0 67 dX6_where_65 rfl rfl ?_
      refine I_iald 68 dX6_where_67 rfl (fun v67 => ?_)
      refine I_aload_n 1 69 dX6_where_68 rfl rfl rfl ?_
      refine I_getA 72 dX6_where_69 rfl cl7 (by decide) wfl_75 sameF_rfl (fun v69 => ?_)
      refine I_iload 0 74 dX6_where_72 rfl rfl ?_
      refine I_iald 75 dX6_where_74 rfl (fun v74 => ?_)
      refine I_callSi (As := [.int v67, .int v74]) (rest := [.ref v58, .int v54]) 78 (C_X6_node hst v67 v74) dX6_where_75 rfl rfl (by decide) (Nat.le_of_ble_eq_true rfl) wcd_208 win_200 wml_209 wst_210 ⟨by decide, by decide, pd_X6_node⟩ (fun x hx => by cases hx) (fun v75 => ?_)
      refine I_iald 79 dX6_where_78 rfl (fun v78 => ?_)
      refine I_icmp_ge 84 82 dX6_where_79 rfl rfl (fun _ => ?_) (fun _ => ?_)
      · refine I_aload_n 1 85 dX6_where_84 rfl rfl rfl ?_
        refine I_getI 88 dX6_where_85 rfl cl7 (by decide) wfl_393 sameF_rfl (fun v85 => ?_)
        refine I_aload_n 1 89 dX6_where_88 rfl rfl rfl ?_
        refine I_getA 92 dX6_where_89 rfl cl7 (by decide) wfl_56 sameF_rfl (fun v89 => ?_)
        refine I_aload_n 1 93 dX6_where_92 rfl rfl rfl ?_
        refine I_getA 96 dX6_where_93 rfl cl7 (by decide) wfl_74 sameF_rfl (fun v93 => ?_)
        refine I_iload 0 98 dX6_where_96 rfl rfl ?_
        refine I_iald 99 dX6_where_98 rfl (fun v98 => ?_)
        refine I_aload_n 1 100 dX6_where_99 rfl rfl rfl ?_
        refine I_getA 103 dX6_where_100 rfl cl7 (by decide) wfl_76 sameF_rfl (fun v100 => ?_)
        refine I_iload 0 105 dX6_where_103 rfl rfl ?_
        refine I_iald 106 dX6_where_105 rfl (fun v105 => ?_)
        refine I_callSi (As := [.int v98, .int v105]) (rest := [.ref v89, .int v85]) 109 (C_X6_node hst v98 v105) dX6_where_106 rfl rfl (by decide) (Nat.le_of_ble_eq_true rfl) wcd_208 win_200 wml_209 wst_210 ⟨by decide, by decide, pd_X6_node⟩ (fun x hx => by cases hx) (fun v106 => ?_)
        refine I_iald 110 dX6_where_109 rfl (fun v109 => ?_)
        refine I_icmp_ge 115 113 dX6_where_110 rfl rfl (fun _ => ?_) (fun _ => ?_)
        · refine I_iinc 118 (x3 + 1) [(3, .int (x3 + 1)), (4, .int v48), (0, .ref x0), (1, .int x1), (2, .int x2)] 4 dX6_where_115 rfl rfl rfl (by decide) rfl ?_
          refine I_goto 36 dX6_where_118 rfl ?_
          refine I_sub [(0, .ref x0), (1, .int x1), (2, .int x2), (3, .int (x3 + 1))] [2, 3, 4, 0] rfl ?_
          exact ih (x3 + 1)
        · refine I_iconst (2 : Int32) 114 dX6_where_113 rfl (by decide) ?_
          exact I_iret dX6_where_114 rfl
      · refine I_iconst (1 : Int32) 83 dX6_where_82 rfl (by decide) ?_
        exact I_iret dX6_where_83 rfl
def X6_where_b164 (t0 mi : Nat) (s0 : Int32) : Mo Int32 :=
    rt s0
set_option maxRecDepth 20000 in
theorem I_X6_where_b164 {l : Launch} {g : GX} (hst : l.stackTraces = false) (s0 : Int32) : I l g M_X6_where cvI 164 [] [.int s0] (X6_where_b164 (gt0 g) (gmi g) s0) := by
  unfold X6_where_b164
  exact I_iret dX6_where_164 rfl
def X6_where_b143 (t0 mi : Nat) : Mo Int32 :=
    X6_where_b164 t0 mi (1 : Int32)
set_option maxRecDepth 20000 in
theorem I_X6_where_b143 {l : Launch} {g : GX} (hst : l.stackTraces = false) : I l g M_X6_where cvI 143 [] [] (X6_where_b143 (gt0 g) (gmi g)) := by
  unfold X6_where_b143
  refine I_iconst (1 : Int32) 144 dX6_where_143 rfl (by decide) ?_
  refine I_goto 164 dX6_where_144 rfl ?_
  refine I_sub [] [] rfl ?_
  exact I_X6_where_b164 hst (1 : Int32)
def f_X6_where (t0 mi : Nat) (x0 : Nat) (x1 : Int32) : Mo Int32 :=
    bnd (pV x0 7 0 (.int (0 : Int32))) fun _ =>
    bnd (vc x0 7 (f_X6_isBox t0 mi x0 x1)) fun v7 =>
    (if v7 = 0 then
    bnd (vc x0 7 (f_X6_fail t0 mi x0)) fun v14 =>
    rt v14
    else
    bnd (vc x0 7 (f_X6_isGone t0 mi x0 x1)) fun v20 =>
    (if v20 = 0 then
    rt (0 : Int32)
    else
    bnd (vc x0 7 (f_X6_wayOf t0 mi x0 x1)) fun v30 =>
    X6_where_L36 t0 mi x0 x1 v30 (bnd (gA' x0 7 23) fun v122 =>
    bnd (ldK 2 v122 v30) fun v126 =>
    (if v126 = 0 then
    X6_where_b143 t0 mi
    else
    bnd (gI x0 7 1) fun v131 =>
    bnd (vc x0 7 (f_X6_there t0 mi x0 v30 x1)) fun v137 =>
    (if v137 ≤ v131 then
    bnd (gI x0 7 1) fun v148 =>
    bnd (vc x0 7 (f_X6_arrives t0 mi x0 x1)) fun v153 =>
    (if v153 ≤ v148 then
    X6_where_b164 t0 mi (4 : Int32)
    else
    X6_where_b164 t0 mi (3 : Int32))
    else
    X6_where_b143 t0 mi))) FU (0 : Int32)))
set_option maxRecDepth 20000 in
theorem I_X6_where {l : Launch} {g : GX} (hst : l.stackTraces = false) (x0 : Nat) (x1 : Int32) : I l g M_X6_where cvI 0 [(0, .ref x0), (1, .int x1)] [] (f_X6_where (gt0 g) (gmi g) x0 x1) := by
  unfold f_X6_where
  refine I_aload_n 0 1 dX6_where_0 rfl rfl rfl ?_
  refine I_iconst (0 : Int32) 2 dX6_where_1 rfl (by decide) ?_
  refine I_put 5 dX6_where_2 rfl cl7 (by decide) wfl_88 sameF_rfl rfl rfl rfl ?_
  refine I_aload_n 0 6 dX6_where_5 rfl rfl rfl ?_
  refine I_iload_n 1 7 dX6_where_6 rfl rfl rfl ?_
  refine I_callVi (As := [.int x1]) (rest := []) 10 (C_X6_isBox hst x0 x1) dX6_where_7 rfl cl7 rfl (by decide) (Nat.le_of_ble_eq_true rfl) wcd_486 win_200 wml_487 wim_488 wse_489 ⟨by decide, by decide, pd_X6_isBox⟩ (fun x hx => by cases hx) (fun v7 => ?_)
  refine I_if_ne 18 13 dX6_where_10 rfl rfl (fun _ => ?_) (fun _ => ?_)
  · refine I_aload_n 0 14 dX6_where_13 rfl rfl rfl ?_
    refine I_callVi (As := []) (rest := []) 17 (C_X6_fail hst x0) dX6_where_14 rfl cl7 rfl (by decide) (Nat.le_of_ble_eq_true rfl) wcd_204 win_200 wml_205 wim_206 wse_207 ⟨by decide, by decide, pd_X6_fail⟩ (fun x hx => by cases hx) (fun v14 => ?_)
    exact I_iret dX6_where_17 rfl
  · refine I_aload_n 0 19 dX6_where_18 rfl rfl rfl ?_
    refine I_iload_n 1 20 dX6_where_19 rfl rfl rfl ?_
    refine I_callVi (As := [.int x1]) (rest := []) 23 (C_X6_isGone hst x0 x1) dX6_where_20 rfl cl7 rfl (by decide) (Nat.le_of_ble_eq_true rfl) wcd_511 win_200 wml_512 wim_513 wse_514 ⟨by decide, by decide, pd_X6_isGone⟩ (fun x hx => by cases hx) (fun v20 => ?_)
    refine I_if_ne 28 26 dX6_where_23 rfl rfl (fun _ => ?_) (fun _ => ?_)
    · refine I_iconst (0 : Int32) 27 dX6_where_26 rfl (by decide) ?_
      exact I_iret dX6_where_27 rfl
    · refine I_aload_n 0 29 dX6_where_28 rfl rfl rfl ?_
      refine I_iload_n 1 30 dX6_where_29 rfl rfl rfl ?_
      refine I_callVi (As := [.int x1]) (rest := []) 33 (C_X6_wayOf hst x0 x1) dX6_where_30 rfl cl7 rfl (by decide) (Nat.le_of_ble_eq_true rfl) wcd_362 win_200 wml_363 wim_364 wse_365 ⟨by decide, by decide, pd_X6_wayOf⟩ (fun x hx => by cases hx) (fun v30 => ?_)
      refine I_istore_n 34 [(2, .int v30), (0, .ref x0), (1, .int x1)] dX6_where_33 rfl rfl (by decide) rfl ?_
      refine I_iconst (0 : Int32) 35 dX6_where_34 rfl (by decide) ?_
      refine I_istore_n 36 [(3, .int (0 : Int32)), (2, .int v30), (0, .ref x0), (1, .int x1)] dX6_where_35 rfl rfl (by decide) rfl ?_
      refine I_sub [(0, .ref x0), (1, .int x1), (2, .int v30), (3, .int (0 : Int32))] [2, 3, 1, 0] rfl ?_
      refine I_X6_where_L36 hst x0 x1 v30 _ ?_ FU (0 : Int32)
      refine I_aload_n 0 122 dX6_where_121 rfl rfl rfl ?_
      refine I_getA 125 dX6_where_122 rfl cl7 (by decide) wfl_70 sameF_rfl (fun v122 => ?_)
      refine I_iload_n 2 126 dX6_where_125 rfl rfl rfl ?_
      refine I_zald 127 dX6_where_126 rfl (fun v126 => ?_)
      refine I_if_eq 143 130 dX6_where_127 rfl rfl (fun _ => ?_) (fun _ => ?_)
      · refine I_sub [] [] rfl ?_
        exact I_X6_where_b143 hst
      · refine I_aload_n 0 131 dX6_where_130 rfl rfl rfl ?_
        refine I_getI 134 dX6_where_131 rfl cl7 (by decide) wfl_393 sameF_rfl (fun v131 => ?_)
        refine I_aload_n 0 135 dX6_where_134 rfl rfl rfl ?_
        refine I_iload_n 2 136 dX6_where_135 rfl rfl rfl ?_
        refine I_iload_n 1 137 dX6_where_136 rfl rfl rfl ?_
        refine I_callVi (As := [.int v30, .int x1]) (rest := [.int v131]) 140 (C_X6_there hst x0 v30 x1) dX6_where_137 rfl cl7 rfl (by decide) (Nat.le_of_ble_eq_true rfl) wcd_450 win_200 wml_451 wim_452 wse_453 ⟨by decide, by decide, pd_X6_there⟩ (fun x hx => by cases hx) (fun v137 => ?_)
        refine I_icmp_ge 147 143 dX6_where_140 rfl rfl (fun _ => ?_) (fun _ => ?_)
        · refine I_aload_n 0 148 dX6_where_147 rfl rfl rfl ?_
          refine I_getI 151 dX6_where_148 rfl cl7 (by decide) wfl_393 sameF_rfl (fun v148 => ?_)
          refine I_aload_n 0 152 dX6_where_151 rfl rfl rfl ?_
          refine I_iload_n 1 153 dX6_where_152 rfl rfl rfl ?_
          refine I_callVi (As := [.int x1]) (rest := [.int v148]) 156 (C_X6_arrives hst x0 x1) dX6_where_153 rfl cl7 rfl (by decide) (Nat.le_of_ble_eq_true rfl) wcd_490 win_200 wml_491 wim_492 wse_493 ⟨by decide, by decide, pd_X6_arrives⟩ (fun x hx => by cases hx) (fun v153 => ?_)
          refine I_icmp_ge 163 159 dX6_where_156 rfl rfl (fun _ => ?_) (fun _ => ?_)
          · refine I_iconst (4 : Int32) 164 dX6_where_163 rfl (by decide) ?_
            refine I_sub [] [] rfl ?_
            exact I_X6_where_b164 hst (4 : Int32)
          · refine I_iconst (3 : Int32) 160 dX6_where_159 rfl (by decide) ?_
            refine I_goto 164 dX6_where_160 rfl ?_
            refine I_sub [] [] rfl ?_
            exact I_X6_where_b164 hst (3 : Int32)
        · refine I_sub [] [] rfl ?_
          exact I_X6_where_b143 hst
theorem C_X6_where {l : Launch} {g : GX} (hst : l.stackTraces = false) (x0 : Nat) (x1 : Int32) : Cs l g M_X6_where cvI [.ref x0, .int x1] (f_X6_where (gt0 g) (gmi g) x0 x1) :=
  Cs_of_I [(0, .ref x0), (1, .int x1)] rfl (by decide) hst (Nat.le_of_ble_eq_true rfl) rfl (I_X6_where hst x0 x1)
/-! LunchMarks$Trip.hasSameLegs(LLunchMarks$Trip;)Z -/
abbrev M_X4_hasSameLegs : MS := (yX4_hasSameLegs, cX4_hasSameLegs, 3, (some .boolean), [], 0, 0)
theorem pd_X4_hasSameLegs : (parseMethodDescriptor (mY M_X4_hasSameLegs).desc).map (fun d => d.parameters.length) = some 1 := by decide +kernel
def X4_hasSameLegs_L15 (t0 mi : Nat) (x0 : Nat) (x1 : Nat) (kx : Mo Int32) : Nat → Int32 → Mo Int32
  | 0, _ => flr
  | n + 1, x2 =>
    bnd (gI x0 5 7) fun v17 =>
    (if (v17 * (3 : Int32)) ≤ x2 then
    kx
    else
    bnd (gA' x0 5 6) fun v26 =>
    bnd (ldK 0 v26 x2) fun v30 =>
    bnd (gA' x1 5 6) fun v32 =>
    bnd (ldK 0 v32 x2) fun v36 =>
    (if v30 = v36 then
    (X4_hasSameLegs_L15 t0 mi x0 x1 kx n) (x2 + 1)
    else
    rtZ (0 : Int32)))
set_option maxRecDepth 20000 in
theorem I_X4_hasSameLegs_L15 {l : Launch} {g : GX} (hst : l.stackTraces = false) (x0 : Nat) (x1 : Nat) (kx : Mo Int32) (hkx : I l g M_X4_hasSameLegs cvI 48 [] [] kx) : ∀ (n : Nat) (x2 : Int32), I l g M_X4_hasSameLegs cvI 15 [(0, .ref x0), (1, .ref x1), (2, .int x2)] [] (X4_hasSameLegs_L15 (gt0 g) (gmi g) x0 x1 kx n x2) := by
  intro n
  induction n with
  | zero => intro x2; rw [X4_hasSameLegs_L15]; exact I_flr
  | succ n ih =>
    intro x2; rw [X4_hasSameLegs_L15]
    refine I_iload_n 2 16 dX4_hasSameLegs_15 rfl rfl rfl ?_
    refine I_aload_n 0 17 dX4_hasSameLegs_16 rfl rfl rfl ?_
    refine I_getI 20 dX4_hasSameLegs_17 rfl cl5 (by decide) wfl_219 sameF_rfl (fun v17 => ?_)
    refine I_iconst (3 : Int32) 21 dX4_hasSameLegs_20 rfl (by decide) ?_
    refine I_imul 22 dX4_hasSameLegs_21 rfl ?_
    refine I_icmp_ge 48 25 dX4_hasSameLegs_22 rfl rfl (fun _ => ?_) (fun _ => ?_)
    · refine I_sub [] [] rfl ?_
      exact hkx
    · refine I_aload_n 0 26 dX4_hasSameLegs_25 rfl rfl rfl ?_
      refine I_getA 29 dX4_hasSameLegs_26 rfl cl5 (by decide) wfl_218 sameF_rfl (fun v26 => ?_)
      refine I_iload_n 2 30 dX4_hasSameLegs_29 rfl rfl rfl ?_
      refine I_iald 31 dX4_hasSameLegs_30 rfl (fun v30 => ?_)
      refine I_aload_n 1 32 dX4_hasSameLegs_31 rfl rfl rfl ?_
      refine I_getA 35 dX4_hasSameLegs_32 rfl cl5 (by decide) wfl_218 sameF_rfl (fun v32 => ?_)
      refine I_iload_n 2 36 dX4_hasSameLegs_35 rfl rfl rfl ?_
      refine I_iald 37 dX4_hasSameLegs_36 rfl (fun v36 => ?_)
      refine I_icmp_eq 42 40 dX4_hasSameLegs_37 rfl rfl (fun _ => ?_) (fun _ => ?_)
      · refine I_iinc 45 (x2 + 1) [(2, .int (x2 + 1)), (0, .ref x0), (1, .ref x1)] 2 dX4_hasSameLegs_42 rfl rfl rfl (by decide) rfl ?_
        refine I_goto 15 dX4_hasSameLegs_45 rfl ?_
        refine I_sub [(0, .ref x0), (1, .ref x1), (2, .int (x2 + 1))] [1, 2, 0] rfl ?_
        exact ih (x2 + 1)
      · refine I_iconst (0 : Int32) 41 dX4_hasSameLegs_40 rfl (by decide) ?_
        exact I_zret dX4_hasSameLegs_41 rfl
def f_X4_hasSameLegs (t0 mi : Nat) (x0 : Nat) (x1 : Nat) : Mo Int32 :=
    bnd (gI x0 5 7) fun v1 =>
    bnd (gI x1 5 7) fun v5 =>
    (if v1 = v5 then
    X4_hasSameLegs_L15 t0 mi x0 x1 (rtZ (1 : Int32)) FU (0 : Int32)
    else
    rtZ (0 : Int32))
set_option maxRecDepth 20000 in
theorem I_X4_hasSameLegs {l : Launch} {g : GX} (hst : l.stackTraces = false) (x0 : Nat) (x1 : Nat) : I l g M_X4_hasSameLegs cvI 0 [(0, .ref x0), (1, .ref x1)] [] (f_X4_hasSameLegs (gt0 g) (gmi g) x0 x1) := by
  unfold f_X4_hasSameLegs
  refine I_aload_n 0 1 dX4_hasSameLegs_0 rfl rfl rfl ?_
  refine I_getI 4 dX4_hasSameLegs_1 rfl cl5 (by decide) wfl_219 sameF_rfl (fun v1 => ?_)
  refine I_aload_n 1 5 dX4_hasSameLegs_4 rfl rfl rfl ?_
  refine I_getI 8 dX4_hasSameLegs_5 rfl cl5 (by decide) wfl_219 sameF_rfl (fun v5 => ?_)
  refine I_icmp_eq 13 11 dX4_hasSameLegs_8 rfl rfl (fun _ => ?_) (fun _ => ?_)
  · refine I_iconst (0 : Int32) 14 dX4_hasSameLegs_13 rfl (by decide) ?_
    refine I_istore_n 15 [(2, .int (0 : Int32)), (0, .ref x0), (1, .ref x1)] dX4_hasSameLegs_14 rfl rfl (by decide) rfl ?_
    refine I_sub [(0, .ref x0), (1, .ref x1), (2, .int (0 : Int32))] [1, 2, 0] rfl ?_
    refine I_X4_hasSameLegs_L15 hst x0 x1 _ ?_ FU (0 : Int32)
    refine I_iconst (1 : Int32) 49 dX4_hasSameLegs_48 rfl (by decide) ?_
    exact I_zret dX4_hasSameLegs_49 rfl
  · refine I_iconst (0 : Int32) 12 dX4_hasSameLegs_11 rfl (by decide) ?_
    exact I_zret dX4_hasSameLegs_12 rfl
theorem C_X4_hasSameLegs {l : Launch} {g : GX} (hst : l.stackTraces = false) (x0 : Nat) (x1 : Nat) : Cs l g M_X4_hasSameLegs cvI [.ref x0, .ref x1] (f_X4_hasSameLegs (gt0 g) (gmi g) x0 x1) :=
  Cs_of_I [(0, .ref x0), (1, .ref x1)] rfl (by decide) hst (Nat.le_of_ble_eq_true rfl) rfl (I_X4_hasSameLegs hst x0 x1)
/-! LunchMarks.markOfLikeBox(I)I -/
abbrev M_X5_markOfLikeBox : MS := (yX5_markOfLikeBox, cX5_markOfLikeBox, 4, (some .int), [], 3, 64)
theorem pd_X5_markOfLikeBox : (parseMethodDescriptor (mY M_X5_markOfLikeBox).desc).map (fun d => d.parameters.length) = some 1 := by decide +kernel
def X5_markOfLikeBox_b60 (t0 mi : Nat) (kh17 : Int32 → Mo Int32) (x0 : Nat) (x1 : Int32) (x2 : Nat) (x3 : Int32) : Mo Int32 :=
    kh17 (x3 + 1)
set_option maxRecDepth 20000 in
theorem I_X5_markOfLikeBox_b60 {l : Launch} {g : GX} (hst : l.stackTraces = false) (x0 : Nat) (x1 : Int32) (x2 : Nat) (x3 : Int32) (kh17 : Int32 → Mo Int32) (hkh17 : ∀ (z3 : Int32), I l g M_X5_markOfLikeBox cvI 17 [(0, .ref x0), (1, .int x1), (2, .ref x2), (3, .int z3)] [] (kh17 z3)) : I l g M_X5_markOfLikeBox cvI 60 [(0, .ref x0), (1, .int x1), (2, .ref x2), (3, .int x3)] [] (X5_markOfLikeBox_b60 (gt0 g) (gmi g) kh17 x0 x1 x2 x3) := by
  unfold X5_markOfLikeBox_b60
  refine I_iinc 63 (x3 + 1) [(3, .int (x3 + 1)), (0, .ref x0), (1, .int x1), (2, .ref x2)] 3 dX5_markOfLikeBox_60 rfl rfl rfl (by decide) rfl ?_
  refine I_goto 17 dX5_markOfLikeBox_63 rfl ?_
  refine I_sub [(0, .ref x0), (1, .int x1), (2, .ref x2), (3, .int (x3 + 1))] [1, 2, 3, 0] rfl ?_
  exact hkh17 (x3 + 1)
def X5_markOfLikeBox_L17 (t0 mi : Nat) (x0 : Nat) (x1 : Int32) (x2 : Nat) (kx : Mo Int32) : Nat → Int32 → Mo Int32
  | 0, _ => flr
  | n + 1, x3 =>
    (if x1 ≤ x3 then
    kx
    else
    bnd (gA' x0 6 3) fun v23 =>
    bnd (ldK 0 v23 x3) fun v27 =>
    (if v27 = (-1 : Int32) then
    X5_markOfLikeBox_b60 t0 mi (X5_markOfLikeBox_L17 t0 mi x0 x1 x2 kx n) x0 x1 x2 x3
    else
    bnd (gA' x0 6 1) fun v33 =>
    bnd (vc v33 0 (f_Jx4a65c_get_915e3 t0 mi v33 x3)) fun v37 =>
    bnd (isC v37 1) fun _ =>
    bnd (gA' v37 1 0) fun v43 =>
    bnd (vc v43 5 (f_X4_hasSameLegs t0 mi v43 x2)) fun v47 =>
    (if v47 = 0 then
    X5_markOfLikeBox_b60 t0 mi (X5_markOfLikeBox_L17 t0 mi x0 x1 x2 kx n) x0 x1 x2 x3
    else
    bnd (gA' x0 6 3) fun v54 =>
    bnd (ldK 0 v54 x3) fun v58 =>
    rt v58)))
set_option maxRecDepth 20000 in
theorem I_X5_markOfLikeBox_L17 {l : Launch} {g : GX} (hst : l.stackTraces = false) (x0 : Nat) (x1 : Int32) (x2 : Nat) (kx : Mo Int32) (hkx : I l g M_X5_markOfLikeBox cvI 66 [] [] kx) : ∀ (n : Nat) (x3 : Int32), I l g M_X5_markOfLikeBox cvI 17 [(0, .ref x0), (1, .int x1), (2, .ref x2), (3, .int x3)] [] (X5_markOfLikeBox_L17 (gt0 g) (gmi g) x0 x1 x2 kx n x3) := by
  intro n
  induction n with
  | zero => intro x3; rw [X5_markOfLikeBox_L17]; exact I_flr
  | succ n ih =>
    intro x3; rw [X5_markOfLikeBox_L17]
    refine I_iload_n 3 18 dX5_markOfLikeBox_17 rfl rfl rfl ?_
    refine I_iload_n 1 19 dX5_markOfLikeBox_18 rfl rfl rfl ?_
    refine I_icmp_ge 66 22 dX5_markOfLikeBox_19 rfl rfl (fun _ => ?_) (fun _ => ?_)
    · refine I_sub [] [] rfl ?_
      exact hkx
    · refine I_aload_n 0 23 dX5_markOfLikeBox_22 rfl rfl rfl ?_
      refine I_getA 26 dX5_markOfLikeBox_23 rfl cl6 (by decide) wfl_49 sameF_rfl (fun v23 => ?_)
      refine I_iload_n 3 27 dX5_markOfLikeBox_26 rfl rfl rfl ?_
      refine I_iald 28 dX5_markOfLikeBox_27 rfl (fun v27 => ?_)
      refine I_iconst (-1 : Int32) 29 dX5_markOfLikeBox_28 rfl (by decide) ?_
      refine I_icmp_eq 60 32 dX5_markOfLikeBox_29 rfl rfl (fun _ => ?_) (fun _ => ?_)
      · refine I_sub [(0, .ref x0), (1, .int x1), (2, .ref x2), (3, .int x3)] [0, 1, 2, 3] rfl ?_
        exact I_X5_markOfLikeBox_b60 hst x0 x1 x2 x3 _ ih
      · refine I_aload_n 0 33 dX5_markOfLikeBox_32 rfl rfl rfl ?_
        refine I_getA 36 dX5_markOfLikeBox_33 rfl cl6 (by decide) wfl_41 sameF_rfl (fun v33 => ?_)
        refine I_iload_n 3 37 dX5_markOfLikeBox_36 rfl rfl rfl ?_
        refine I_callVa (As := [.int x3]) (rest := []) 40 (C_Jx4a65c_get_915e3 hst v33 x3) dX5_markOfLikeBox_37 rfl cl0 rfl (by decide) (Nat.le_of_ble_eq_true rfl) wcd_166 win_20 wml_167 wim_168 wse_169 ⟨by decide, by decide, pd_Jx4a65c_get_915e3⟩ (fun x hx => by cases hx) (fun v37 => ?_)
        refine I_cast 43 dX5_markOfLikeBox_40 rfl cl1 wcl_228 ?_
        refine I_getA 46 dX5_markOfLikeBox_43 rfl cl1 (by decide) wfl_472 sameF_rfl (fun v43 => ?_)
        refine I_aload_n 2 47 dX5_markOfLikeBox_46 rfl rfl rfl ?_
        refine I_callVi (As := [.ref x2]) (rest := []) 50 (C_X4_hasSameLegs hst v43 x2) dX5_markOfLikeBox_47 rfl cl5 rfl (by decide) (Nat.le_of_ble_eq_true rfl) wcd_551 win_233 wml_552 wim_553 wse_554 ⟨by decide, by decide, pd_X4_hasSameLegs⟩ (fun x hx => by cases hx) (fun v47 => ?_)
        refine I_if_eq 60 53 dX5_markOfLikeBox_50 rfl rfl (fun _ => ?_) (fun _ => ?_)
        · refine I_sub [(0, .ref x0), (1, .int x1), (2, .ref x2), (3, .int x3)] [0, 1, 2, 3] rfl ?_
          exact I_X5_markOfLikeBox_b60 hst x0 x1 x2 x3 _ ih
        · refine I_aload_n 0 54 dX5_markOfLikeBox_53 rfl rfl rfl ?_
          refine I_getA 57 dX5_markOfLikeBox_54 rfl cl6 (by decide) wfl_49 sameF_rfl (fun v54 => ?_)
          refine I_iload_n 3 58 dX5_markOfLikeBox_57 rfl rfl rfl ?_
          refine I_iald 59 dX5_markOfLikeBox_58 rfl (fun v58 => ?_)
          exact I_iret dX5_markOfLikeBox_59 rfl
def f_X5_markOfLikeBox (t0 mi : Nat) (x0 : Nat) (x1 : Int32) : Mo Int32 :=
    bnd (gA' x0 6 1) fun v1 =>
    bnd (vc v1 0 (f_Jx4a65c_get_915e3 t0 mi v1 x1)) fun v5 =>
    bnd (isC v5 1) fun _ =>
    bnd (gA' v5 1 0) fun v11 =>
    X5_markOfLikeBox_L17 t0 mi x0 x1 v11 (rt (-1 : Int32)) FU (0 : Int32)
set_option maxRecDepth 20000 in
theorem I_X5_markOfLikeBox {l : Launch} {g : GX} (hst : l.stackTraces = false) (x0 : Nat) (x1 : Int32) : I l g M_X5_markOfLikeBox cvI 0 [(0, .ref x0), (1, .int x1)] [] (f_X5_markOfLikeBox (gt0 g) (gmi g) x0 x1) := by
  unfold f_X5_markOfLikeBox
  refine I_aload_n 0 1 dX5_markOfLikeBox_0 rfl rfl rfl ?_
  refine I_getA 4 dX5_markOfLikeBox_1 rfl cl6 (by decide) wfl_41 sameF_rfl (fun v1 => ?_)
  refine I_iload_n 1 5 dX5_markOfLikeBox_4 rfl rfl rfl ?_
  refine I_callVa (As := [.int x1]) (rest := []) 8 (C_Jx4a65c_get_915e3 hst v1 x1) dX5_markOfLikeBox_5 rfl cl0 rfl (by decide) (Nat.le_of_ble_eq_true rfl) wcd_166 win_20 wml_167 wim_168 wse_169 ⟨by decide, by decide, pd_Jx4a65c_get_915e3⟩ (fun x hx => by cases hx) (fun v5 => ?_)
  refine I_cast 11 dX5_markOfLikeBox_8 rfl cl1 wcl_228 ?_
  refine I_getA 14 dX5_markOfLikeBox_11 rfl cl1 (by decide) wfl_472 sameF_rfl (fun v11 => ?_)
  refine I_astore_n 15 [(2, .ref v11), (0, .ref x0), (1, .int x1)] dX5_markOfLikeBox_14 rfl rfl (by decide) rfl ?_
  refine I_iconst (0 : Int32) 16 dX5_markOfLikeBox_15 rfl (by decide) ?_
  refine I_istore_n 17 [(3, .int (0 : Int32)), (2, .ref v11), (0, .ref x0), (1, .int x1)] dX5_markOfLikeBox_16 rfl rfl (by decide) rfl ?_
  refine I_sub [(0, .ref x0), (1, .int x1), (2, .ref v11), (3, .int (0 : Int32))] [2, 3, 1, 0] rfl ?_
  refine I_X5_markOfLikeBox_L17 hst x0 x1 v11 _ ?_ FU (0 : Int32)
  refine I_iconst (-1 : Int32) 67 dX5_markOfLikeBox_66 rfl (by decide) ?_
  exact I_iret dX5_markOfLikeBox_67 rfl
theorem C_X5_markOfLikeBox {l : Launch} {g : GX} (hst : l.stackTraces = false) (x0 : Nat) (x1 : Int32) : Cs l g M_X5_markOfLikeBox cvI [.ref x0, .int x1] (f_X5_markOfLikeBox (gt0 g) (gmi g) x0 x1) :=
  Cs_of_I [(0, .ref x0), (1, .int x1)] rfl (by decide) hst (Nat.le_of_ble_eq_true rfl) rfl (I_X5_markOfLikeBox hst x0 x1)
/-! LunchMarks.numberMarks()I -/
abbrev M_X5_numberMarks : MS := (yX5_numberMarks, cX5_numberMarks, 3, (some .int), [], 4, 87)
theorem pd_X5_numberMarks : (parseMethodDescriptor (mY M_X5_numberMarks).desc).map (fun d => d.parameters.length) = some 0 := by decide +kernel
def X5_numberMarks_b82 (t0 mi : Nat) (kh4 : Int32 → Int32 → Mo Int32) (x0 : Nat) (x1 : Int32) (x2 : Int32) : Mo Int32 :=
    kh4 x1 (x2 + 1)
set_option maxRecDepth 20000 in
theorem I_X5_numberMarks_b82 {l : Launch} {g : GX} (hst : l.stackTraces = false) (x0 : Nat) (x1 : Int32) (x2 : Int32) (kh4 : Int32 → Int32 → Mo Int32) (hkh4 : ∀ (z1 : Int32) (z2 : Int32), I l g M_X5_numberMarks cvI 4 [(0, .ref x0), (1, .int z1), (2, .int z2)] [] (kh4 z1 z2)) : I l g M_X5_numberMarks cvI 82 [(0, .ref x0), (1, .int x1), (2, .int x2)] [] (X5_numberMarks_b82 (gt0 g) (gmi g) kh4 x0 x1 x2) := by
  unfold X5_numberMarks_b82
  refine I_iinc 85 (x2 + 1) [(2, .int (x2 + 1)), (0, .ref x0), (1, .int x1)] 2 dX5_numberMarks_82 rfl rfl rfl (by decide) rfl ?_
  refine I_goto 4 dX5_numberMarks_85 rfl ?_
  refine I_sub [(0, .ref x0), (1, .int x1), (2, .int (x2 + 1))] [1, 2, 0] rfl ?_
  exact hkh4 x1 (x2 + 1)
def X5_numberMarks_L4 (t0 mi : Nat) (x0 : Nat) (kx : Int32 → Mo Int32) : Nat → Int32 → Int32 → Mo Int32
  | 0, _, _ => flr
  | n + 1, x1, x2 =>
    bnd (gA' x0 6 1) fun v6 =>
    bnd (vc v6 0 (f_Jx4a65c_size_8abf5 t0 mi v6)) fun v9 =>
    (if v9 ≤ x2 then
    kx x1
    else
    bnd (gA' x0 6 3) fun v17 =>
    bnd (alen v17) fun v20 =>
    (if v20 ≤ x2 then
    kx x1
    else
    bnd (gA' x0 6 3) fun v25 =>
    bnd (stK 0 v25 x2 (-1 : Int32)) fun _ =>
    bnd (gA' x0 6 1) fun v32 =>
    bnd (vc v32 0 (f_Jx4a65c_get_915e3 t0 mi v32 x2)) fun v36 =>
    bnd (isC v36 1) fun _ =>
    bnd (gA' v36 1 0) fun v42 =>
    bnd (vc v42 5 (f_X4_hasWay t0 mi v42)) fun v45 =>
    (if v45 = 0 then
    X5_numberMarks_b82 t0 mi (X5_numberMarks_L4 t0 mi x0 kx n) x0 x1 x2
    else
    bnd (gA' x0 6 3) fun v52 =>
    bnd (vc x0 6 (f_X5_markOfLikeBox t0 mi x0 x2)) fun v58 =>
    bnd (stK 0 v52 x2 v58) fun _ =>
    bnd (gA' x0 6 3) fun v63 =>
    bnd (ldK 0 v63 x2) fun v67 =>
    (if v67 = (-1 : Int32) then
    bnd (gA' x0 6 3) fun v73 =>
    bnd (stK 0 v73 x2 x1) fun _ =>
    X5_numberMarks_b82 t0 mi (X5_numberMarks_L4 t0 mi x0 kx n) x0 (x1 + 1) x2
    else
    X5_numberMarks_b82 t0 mi (X5_numberMarks_L4 t0 mi x0 kx n) x0 x1 x2))))
set_option maxRecDepth 20000 in
theorem I_X5_numberMarks_L4 {l : Launch} {g : GX} (hst : l.stackTraces = false) (x0 : Nat) (kx : Int32 → Mo Int32) (hkx : ∀ (z1 : Int32), I l g M_X5_numberMarks cvI 88 [(1, .int z1)] [] (kx z1)) : ∀ (n : Nat) (x1 : Int32) (x2 : Int32), I l g M_X5_numberMarks cvI 4 [(0, .ref x0), (1, .int x1), (2, .int x2)] [] (X5_numberMarks_L4 (gt0 g) (gmi g) x0 kx n x1 x2) := by
  intro n
  induction n with
  | zero => intro x1 x2; rw [X5_numberMarks_L4]; exact I_flr
  | succ n ih =>
    intro x1 x2; rw [X5_numberMarks_L4]
    refine I_iload_n 2 5 dX5_numberMarks_4 rfl rfl rfl ?_
    refine I_aload_n 0 6 dX5_numberMarks_5 rfl rfl rfl ?_
    refine I_getA 9 dX5_numberMarks_6 rfl cl6 (by decide) wfl_41 sameF_rfl (fun v6 => ?_)
    refine I_callVi (As := []) (rest := [.int x2]) 12 (C_Jx4a65c_size_8abf5 hst v6) dX5_numberMarks_9 rfl cl0 rfl (by decide) (Nat.le_of_ble_eq_true rfl) wcd_131 win_20 wml_165 wim_133 wse_134 ⟨by decide, by decide, pd_Jx4a65c_size_8abf5⟩ (fun x hx => by cases hx) (fun v9 => ?_)
    refine I_icmp_ge 88 15 dX5_numberMarks_12 rfl rfl (fun _ => ?_) (fun _ => ?_)
    · refine I_sub [(1, .int x1)] [1] rfl ?_
      exact hkx x1
    · refine I_iload_n 2 16 dX5_numberMarks_15 rfl rfl rfl ?_
      refine I_aload_n 0 17 dX5_numberMarks_16 rfl rfl rfl ?_
      refine I_getA 20 dX5_numberMarks_17 rfl cl6 (by decide) wfl_49 sameF_rfl (fun v17 => ?_)
      refine I_alen 21 dX5_numberMarks_20 rfl (fun v20 => ?_)
      refine I_icmp_ge 88 24 dX5_numberMarks_21 rfl rfl (fun _ => ?_) (fun _ => ?_)
      · refine I_sub [(1, .int x1)] [1] rfl ?_
        exact hkx x1
      · refine I_aload_n 0 25 dX5_numberMarks_24 rfl rfl rfl ?_
        refine I_getA 28 dX5_numberMarks_25 rfl cl6 (by decide) wfl_49 sameF_rfl (fun v25 => ?_)
        refine I_iload_n 2 29 dX5_numberMarks_28 rfl rfl rfl ?_
        refine I_iconst (-1 : Int32) 30 dX5_numberMarks_29 rfl (by decide) ?_
        refine I_iast 31 dX5_numberMarks_30 rfl ?_
        refine I_aload_n 0 32 dX5_numberMarks_31 rfl rfl rfl ?_
        refine I_getA 35 dX5_numberMarks_32 rfl cl6 (by decide) wfl_41 sameF_rfl (fun v32 => ?_)
        refine I_iload_n 2 36 dX5_numberMarks_35 rfl rfl rfl ?_
        refine I_callVa (As := [.int x2]) (rest := []) 39 (C_Jx4a65c_get_915e3 hst v32 x2) dX5_numberMarks_36 rfl cl0 rfl (by decide) (Nat.le_of_ble_eq_true rfl) wcd_166 win_20 wml_167 wim_168 wse_169 ⟨by decide, by decide, pd_Jx4a65c_get_915e3⟩ (fun x hx => by cases hx) (fun v36 => ?_)
        refine I_cast 42 dX5_numberMarks_39 rfl cl1 wcl_228 ?_
        refine I_getA 45 dX5_numberMarks_42 rfl cl1 (by decide) wfl_472 sameF_rfl (fun v42 => ?_)
        refine I_callVi (As := []) (rest := []) 48 (C_X4_hasWay hst v42) dX5_numberMarks_45 rfl cl5 rfl (by decide) (Nat.le_of_ble_eq_true rfl) wcd_454 win_233 wml_555 wim_456 wse_457 ⟨by decide, by decide, pd_X4_hasWay⟩ (fun x hx => by cases hx) (fun v45 => ?_)
        refine I_if_eq 82 51 dX5_numberMarks_48 rfl rfl (fun _ => ?_) (fun _ => ?_)
        · refine I_sub [(0, .ref x0), (1, .int x1), (2, .int x2)] [0, 1, 2] rfl ?_
          exact I_X5_numberMarks_b82 hst x0 x1 x2 _ ih
        · refine I_aload_n 0 52 dX5_numberMarks_51 rfl rfl rfl ?_
          refine I_getA 55 dX5_numberMarks_52 rfl cl6 (by decide) wfl_49 sameF_rfl (fun v52 => ?_)
          refine I_iload_n 2 56 dX5_numberMarks_55 rfl rfl rfl ?_
          refine I_aload_n 0 57 dX5_numberMarks_56 rfl rfl rfl ?_
          refine I_iload_n 2 58 dX5_numberMarks_57 rfl rfl rfl ?_
          refine I_callVi (As := [.int x2]) (rest := [.int x2, .ref v52]) 61 (C_X5_markOfLikeBox hst x0 x2) dX5_numberMarks_58 rfl cl6 rfl (by decide) (Nat.le_of_ble_eq_true rfl) wcd_556 win_81 wml_557 wim_558 wse_559 ⟨by decide, by decide, pd_X5_markOfLikeBox⟩ (fun x hx => by cases hx) (fun v58 => ?_)
          refine I_iast 62 dX5_numberMarks_61 rfl ?_
          refine I_aload_n 0 63 dX5_numberMarks_62 rfl rfl rfl ?_
          refine I_getA 66 dX5_numberMarks_63 rfl cl6 (by decide) wfl_49 sameF_rfl (fun v63 => ?_)
          refine I_iload_n 2 67 dX5_numberMarks_66 rfl rfl rfl ?_
          refine I_iald 68 dX5_numberMarks_67 rfl (fun v67 => ?_)
          refine I_iconst (-1 : Int32) 69 dX5_numberMarks_68 rfl (by decide) ?_
          refine I_icmp_ne 82 72 dX5_numberMarks_69 rfl rfl (fun _ => ?_) (fun _ => ?_)
          · refine I_aload_n 0 73 dX5_numberMarks_72 rfl rfl rfl ?_
            refine I_getA 76 dX5_numberMarks_73 rfl cl6 (by decide) wfl_49 sameF_rfl (fun v73 => ?_)
            refine I_iload_n 2 77 dX5_numberMarks_76 rfl rfl rfl ?_
            refine I_iload_n 1 78 dX5_numberMarks_77 rfl rfl rfl ?_
            refine I_iast 79 dX5_numberMarks_78 rfl ?_
            refine I_iinc 82 (x1 + 1) [(1, .int (x1 + 1)), (0, .ref x0), (2, .int x2)] 1 dX5_numberMarks_79 rfl rfl rfl (by decide) rfl ?_
            refine I_sub [(0, .ref x0), (1, .int (x1 + 1)), (2, .int x2)] [1, 0, 2] rfl ?_
            exact I_X5_numberMarks_b82 hst x0 (x1 + 1) x2 _ ih
          · refine I_sub [(0, .ref x0), (1, .int x1), (2, .int x2)] [0, 1, 2] rfl ?_
            exact I_X5_numberMarks_b82 hst x0 x1 x2 _ ih
def f_X5_numberMarks (t0 mi : Nat) (x0 : Nat) : Mo Int32 :=
    X5_numberMarks_L4 t0 mi x0 (fun y1_1 =>
    rt y1_1) FU (0 : Int32) (0 : Int32)
set_option maxRecDepth 20000 in
theorem I_X5_numberMarks {l : Launch} {g : GX} (hst : l.stackTraces = false) (x0 : Nat) : I l g M_X5_numberMarks cvI 0 [(0, .ref x0)] [] (f_X5_numberMarks (gt0 g) (gmi g) x0) := by
  unfold f_X5_numberMarks
  refine I_iconst (0 : Int32) 1 dX5_numberMarks_0 rfl (by decide) ?_
  refine I_istore_n 2 [(1, .int (0 : Int32)), (0, .ref x0)] dX5_numberMarks_1 rfl rfl (by decide) rfl ?_
  refine I_iconst (0 : Int32) 3 dX5_numberMarks_2 rfl (by decide) ?_
  refine I_istore_n 4 [(2, .int (0 : Int32)), (1, .int (0 : Int32)), (0, .ref x0)] dX5_numberMarks_3 rfl rfl (by decide) rfl ?_
  refine I_sub [(0, .ref x0), (1, .int (0 : Int32)), (2, .int (0 : Int32))] [2, 1, 0] rfl ?_
  refine I_X5_numberMarks_L4 hst x0 _ (fun y1_1 => ?_) FU (0 : Int32) (0 : Int32)
  refine I_iload_n 0 89 dX5_numberMarks_88 rfl rfl rfl ?_
  exact I_iret dX5_numberMarks_89 rfl
theorem C_X5_numberMarks {l : Launch} {g : GX} (hst : l.stackTraces = false) (x0 : Nat) : Cs l g M_X5_numberMarks cvI [.ref x0] (f_X5_numberMarks (gt0 g) (gmi g) x0) :=
  Cs_of_I [(0, .ref x0)] rfl (by decide) hst (Nat.le_of_ble_eq_true rfl) rfl (I_X5_numberMarks hst x0)
/-! LunchMarks.mark(I)I -/
abbrev M_X5_mark : MS := (yX5_mark, cX5_mark, 2, (some .int), [], 7, 109)
theorem pd_X5_mark : (parseMethodDescriptor (mY M_X5_mark).desc).map (fun d => d.parameters.length) = some 1 := by decide +kernel
def f_X5_mark (t0 mi : Nat) (x0 : Nat) (x1 : Int32) : Mo Int32 :=
    bnd (vc x0 6 (f_X5_boxOf t0 mi x0 x1)) fun v2 =>
    bnd (vc x0 6 (f_X5_numberMarks t0 mi x0)) fun v7 =>
    bnd (gA' x0 6 3) fun v12 =>
    bnd (ldK 0 v12 x1) fun v16 =>
    rt v16
set_option maxRecDepth 20000 in
theorem I_X5_mark {l : Launch} {g : GX} (hst : l.stackTraces = false) (x0 : Nat) (x1 : Int32) : I l g M_X5_mark cvI 0 [(0, .ref x0), (1, .int x1)] [] (f_X5_mark (gt0 g) (gmi g) x0 x1) := by
  unfold f_X5_mark
  refine I_aload_n 0 1 dX5_mark_0 rfl rfl rfl ?_
  refine I_iload_n 1 2 dX5_mark_1 rfl rfl rfl ?_
  refine I_callVa (As := [.int x1]) (rest := []) 5 (C_X5_boxOf hst x0 x1) dX5_mark_2 rfl cl6 rfl (by decide) (Nat.le_of_ble_eq_true rfl) wcd_464 win_81 wml_465 wim_466 wse_467 ⟨by decide, by decide, pd_X5_boxOf⟩ (fun x hx => by cases hx) (fun v2 => ?_)
  refine I_pop 6 dX5_mark_5 rfl rfl ?_
  refine I_aload_n 0 7 dX5_mark_6 rfl rfl rfl ?_
  refine I_callVi (As := []) (rest := []) 10 (C_X5_numberMarks hst x0) dX5_mark_7 rfl cl6 rfl (by decide) (Nat.le_of_ble_eq_true rfl) wcd_560 win_81 wml_561 wim_562 wse_563 ⟨by decide, by decide, pd_X5_numberMarks⟩ (fun x hx => by cases hx) (fun v7 => ?_)
  refine I_pop 11 dX5_mark_10 rfl rfl ?_
  refine I_aload_n 0 12 dX5_mark_11 rfl rfl rfl ?_
  refine I_getA 15 dX5_mark_12 rfl cl6 (by decide) wfl_49 sameF_rfl (fun v12 => ?_)
  refine I_iload_n 1 16 dX5_mark_15 rfl rfl rfl ?_
  refine I_iald 17 dX5_mark_16 rfl (fun v16 => ?_)
  exact I_iret dX5_mark_17 rfl
theorem C_X5_mark {l : Launch} {g : GX} (hst : l.stackTraces = false) (x0 : Nat) (x1 : Int32) : Cs l g M_X5_mark cvI [.ref x0, .int x1] (f_X5_mark (gt0 g) (gmi g) x0 x1) :=
  Cs_of_I [(0, .ref x0), (1, .int x1)] rfl (by decide) hst (Nat.le_of_ble_eq_true rfl) rfl (I_X5_mark hst x0 x1)
/-! LunchMarksLaw.mark(LLunchMarks;I[J)I -/
abbrev M_L_mark : MS := (yL_mark, cL_mark, 4, (some .int), tableOf [(0, 9, 12, 13)], 8, 130)
theorem pd_L_mark : (parseMethodDescriptor (mY M_L_mark).desc).map (fun d => d.parameters.length) = some 3 := by decide +kernel
def f_L_mark (t0 mi : Nat) (x0 : Nat) (x1 : Int32) (x2 : Nat) : Mo Int32 :=
    ctc (vc x0 6 (f_X5_mark t0 mi x0 x1)) (fun v4 =>
    bnd (stL x2 (0 : Int32) v4.toInt64) fun _ =>
    rt (0 : Int32)) (fun E =>
    (if E = "java/util/NoSuchElementException" then
    rt (1 : Int32)
    else
    flr))
set_option maxRecDepth 20000 in
theorem I_L_mark {l : Launch} {g : GX} (hst : l.stackTraces = false) (x0 : Nat) (x1 : Int32) (x2 : Nat) : I l g M_L_mark cvI 0 [(0, .ref x0), (1, .int x1), (2, .ref x2)] [] (f_L_mark (gt0 g) (gmi g) x0 x1 x2) := by
  unfold f_L_mark
  refine I_aload_n 2 1 dL_mark_0 rfl rfl rfl ?_
  refine I_iconst (0 : Int32) 2 dL_mark_1 rfl (by decide) ?_
  refine I_aload_n 0 3 dL_mark_2 rfl rfl rfl ?_
  refine I_iload_n 1 4 dL_mark_3 rfl rfl rfl ?_
  refine I_callVc1 (As := [.int x1]) (rest := [.int (0 : Int32), .ref x2]) 7 (C_X5_mark hst x0 x1) dL_mark_4 rfl cl6 rfl (by decide) (Nat.le_of_ble_eq_true rfl) wcd_564 win_81 wml_565 wim_566 wse_567 ⟨by decide, by decide, pd_X5_mark⟩ rfl (by decide) (by decide) wcl_198 xc_N (fun v4 => ?_) (fun q12 => ?_)
  · refine I_i2l 8 dL_mark_7 rfl ?_
    refine I_last 9 dL_mark_8 rfl ?_
    refine I_goto 15 dL_mark_9 rfl ?_
    refine I_iconst (0 : Int32) 16 dL_mark_15 rfl (by decide) ?_
    exact I_iret dL_mark_16 rfl
  · refine I_astore_n 13 [(3, .ref q12), (0, .ref x0), (1, .int x1), (2, .ref x2)] dL_mark_12 rfl rfl (by decide) rfl ?_
    refine I_iconst (1 : Int32) 14 dL_mark_13 rfl (by decide) ?_
    exact I_iret dL_mark_14 rfl
theorem C_L_mark {l : Launch} {g : GX} (hst : l.stackTraces = false) (x0 : Nat) (x1 : Int32) (x2 : Nat) : CsW l g M_L_mark [(0, 9, 12, 13)] cvI [.ref x0, .int x1, .ref x2] (f_L_mark (gt0 g) (gmi g) x0 x1 x2) :=
  CsW_of_I [(0, .ref x0), (1, .int x1), (2, .ref x2)] rfl (by decide) hst (Nat.le_of_ble_eq_true rfl) rfl (I_L_mark hst x0 x1 x2)
/-! LunchMarksModel.isAlike(II)Z -/
abbrev M_X6_isAlike : MS := (yX6_isAlike, cX6_isAlike, 7, (some .boolean), [], 1, 21)
theorem pd_X6_isAlike : (parseMethodDescriptor (mY M_X6_isAlike).desc).map (fun d => d.parameters.length) = some 2 := by decide +kernel
def X6_isAlike_b121 (t0 mi : Nat) (kh28 : Int32 → Int32 → Mo Int32) (x0 : Nat) (x1 : Int32) (x2 : Int32) (x4 : Int32) (s0 : Int32) : Mo Int32 :=
    kh28 s0 (x4 + 1)
set_option maxRecDepth 20000 in
theorem I_X6_isAlike_b121 {l : Launch} {g : GX} (hst : l.stackTraces = false) (x0 : Nat) (x1 : Int32) (x2 : Int32) (x4 : Int32) (s0 : Int32) (kh28 : Int32 → Int32 → Mo Int32) (hkh28 : ∀ (z3 : Int32) (z4 : Int32), I l g M_X6_isAlike cvI 28 [(0, .ref x0), (1, .int x1), (2, .int x2), (3, .int z3), (4, .int z4)] [] (kh28 z3 z4)) : I l g M_X6_isAlike cvI 121 [(0, .ref x0), (1, .int x1), (2, .int x2), (4, .int x4)] [.int s0] (X6_isAlike_b121 (gt0 g) (gmi g) kh28 x0 x1 x2 x4 s0) := by
  unfold X6_isAlike_b121
  refine I_istore_n 122 [(3, .int s0), (0, .ref x0), (1, .int x1), (2, .int x2), (4, .int x4)] dX6_isAlike_121 rfl rfl (by decide) rfl ?_
  refine I_iinc 125 (x4 + 1) [(4, .int (x4 + 1)), (3, .int s0), (0, .ref x0), (1, .int x1), (2, .int x2)] 4 dX6_isAlike_122 rfl rfl rfl (by decide) rfl ?_
  refine I_goto 28 dX6_isAlike_125 rfl ?_
  refine I_sub [(0, .ref x0), (1, .int x1), (2, .int x2), (3, .int s0), (4, .int (x4 + 1))] [2, 3, 4, 1, 0] rfl ?_
  exact hkh28 s0 (x4 + 1)
def X6_isAlike_b120 (t0 mi : Nat) (kh28 : Int32 → Int32 → Mo Int32) (x0 : Nat) (x1 : Int32) (x2 : Int32) (x4 : Int32) : Mo Int32 :=
    X6_isAlike_b121 t0 mi kh28 x0 x1 x2 x4 (0 : Int32)
set_option maxRecDepth 20000 in
theorem I_X6_isAlike_b120 {l : Launch} {g : GX} (hst : l.stackTraces = false) (x0 : Nat) (x1 : Int32) (x2 : Int32) (x4 : Int32) (kh28 : Int32 → Int32 → Mo Int32) (hkh28 : ∀ (z3 : Int32) (z4 : Int32), I l g M_X6_isAlike cvI 28 [(0, .ref x0), (1, .int x1), (2, .int x2), (3, .int z3), (4, .int z4)] [] (kh28 z3 z4)) : I l g M_X6_isAlike cvI 120 [(0, .ref x0), (1, .int x1), (2, .int x2), (4, .int x4)] [] (X6_isAlike_b120 (gt0 g) (gmi g) kh28 x0 x1 x2 x4) := by
  unfold X6_isAlike_b120
  refine I_iconst (0 : Int32) 121 dX6_isAlike_120 rfl (by decide) ?_
  refine I_sub [(0, .ref x0), (1, .int x1), (2, .int x2), (4, .int x4)] [0, 1, 2, 3] rfl ?_
  exact I_X6_isAlike_b121 hst x0 x1 x2 x4 (0 : Int32) _ hkh28
def X6_isAlike_L28 (t0 mi : Nat) (x0 : Nat) (x1 : Int32) (x2 : Int32) (kx : Int32 → Mo Int32) : Nat → Int32 → Int32 → Mo Int32
  | 0, _, _ => flr
  | n + 1, x3, x4 =>
    (if x3 = 0 then
    kx x3
    else
    bnd (gA' x0 7 24) fun v35 =>
    bnd (ldK 0 v35 ((2 : Int32) * x1)) fun v41 =>
    (if v41 ≤ x4 then
    kx x3
    else
    bnd (f_X6_legAt t0 mi ((2 : Int32) * x1) x4) fun v50 =>
    bnd (f_X6_legAt t0 mi ((2 : Int32) * x2) x4) fun v60 =>
    bnd (gA' x0 7 27) fun v66 =>
    bnd (ldK 0 v66 v50) fun v71 =>
    bnd (gA' x0 7 27) fun v73 =>
    bnd (ldK 0 v73 v60) fun v78 =>
    (if v71 = v78 then
    bnd (gA' x0 7 28) fun v83 =>
    bnd (ldK 0 v83 v50) fun v88 =>
    bnd (gA' x0 7 28) fun v90 =>
    bnd (ldK 0 v90 v60) fun v95 =>
    (if v88 = v95 then
    bnd (gA' x0 7 29) fun v100 =>
    bnd (ldK 0 v100 v50) fun v105 =>
    bnd (gA' x0 7 29) fun v107 =>
    bnd (ldK 0 v107 v60) fun v112 =>
    (if v105 = v112 then
    X6_isAlike_b121 t0 mi (X6_isAlike_L28 t0 mi x0 x1 x2 kx n) x0 x1 x2 x4 (1 : Int32)
    else
    X6_isAlike_b120 t0 mi (X6_isAlike_L28 t0 mi x0 x1 x2 kx n) x0 x1 x2 x4)
    else
    X6_isAlike_b120 t0 mi (X6_isAlike_L28 t0 mi x0 x1 x2 kx n) x0 x1 x2 x4)
    else
    X6_isAlike_b120 t0 mi (X6_isAlike_L28 t0 mi x0 x1 x2 kx n) x0 x1 x2 x4)))
set_option maxRecDepth 20000 in
theorem I_X6_isAlike_L28 {l : Launch} {g : GX} (hst : l.stackTraces = false) (x0 : Nat) (x1 : Int32) (x2 : Int32) (kx : Int32 → Mo Int32) (hkx : ∀ (z3 : Int32), I l g M_X6_isAlike cvI 128 [(3, .int z3)] [] (kx z3)) : ∀ (n : Nat) (x3 : Int32) (x4 : Int32), I l g M_X6_isAlike cvI 28 [(0, .ref x0), (1, .int x1), (2, .int x2), (3, .int x3), (4, .int x4)] [] (X6_isAlike_L28 (gt0 g) (gmi g) x0 x1 x2 kx n x3 x4) := by
  intro n
  induction n with
  | zero => intro x3 x4; rw [X6_isAlike_L28]; exact I_flr
  | succ n ih =>
    intro x3 x4; rw [X6_isAlike_L28]
    refine I_iload_n 3 29 dX6_isAlike_28 rfl rfl rfl ?_
    refine I_if_eq 128 32 dX6_isAlike_29 rfl rfl (fun _ => ?_) (fun _ => ?_)
    · refine I_sub [(3, .int x3)] [3] rfl ?_
      exact hkx x3
    · refine I_iload 4 34 dX6_isAlike_32 rfl rfl ?_
      refine I_aload_n 0 35 dX6_isAlike_34 rfl rfl rfl ?_
      refine I_getA 38 dX6_isAlike_35 rfl cl7 (by decide) wfl_71 sameF_rfl (fun v35 => ?_)
      refine I_iconst (2 : Int32) 39 dX6_isAlike_38 rfl (by decide) ?_
      refine I_iload_n 1 40 dX6_isAlike_39 rfl rfl rfl ?_
      refine I_imul 41 dX6_isAlike_40 rfl ?_
      refine I_iald 42 dX6_isAlike_41 rfl (fun v41 => ?_)
      refine I_icmp_ge 128 45 dX6_isAlike_42 rfl rfl (fun _ => ?_) (fun _ => ?_)
      · refine I_sub [(3, .int x3)] [3] rfl ?_
        exact hkx x3
      · refine I_iconst (2 : Int32) 46 dX6_isAlike_45 rfl (by decide) ?_
        refine I_iload_n 1 47 dX6_isAlike_46 rfl rfl rfl ?_
        refine I_imul 48 dX6_isAlike_47 rfl ?_
        refine I_iload 4 50 dX6_isAlike_48 rfl rfl ?_
        refine I_callSi (As := [.int ((2 : Int32) * x1), .int x4]) (rest := []) 53 (C_X6_legAt hst ((2 : Int32) * x1) x4) dX6_isAlike_50 rfl rfl (by decide) (Nat.le_of_ble_eq_true rfl) wcd_374 win_200 wml_375 wst_376 ⟨by decide, by decide, pd_X6_legAt⟩ (fun x hx => by cases hx) (fun v50 => ?_)
        refine I_istore 55 [(5, .int v50), (0, .ref x0), (1, .int x1), (2, .int x2), (3, .int x3), (4, .int x4)] dX6_isAlike_53 rfl (by decide) rfl ?_
        refine I_iconst (2 : Int32) 56 dX6_isAlike_55 rfl (by decide) ?_
        refine I_iload_n 3 57 dX6_isAlike_56 rfl rfl rfl ?_
        refine I_imul 58 dX6_isAlike_57 rfl ?_
        refine I_iload 5 60 dX6_isAlike_58 rfl rfl ?_
        refine I_callSi (As := [.int ((2 : Int32) * x2), .int x4]) (rest := []) 63 (C_X6_legAt hst ((2 : Int32) * x2) x4) dX6_isAlike_60 rfl rfl (by decide) (Nat.le_of_ble_eq_true rfl) wcd_374 win_200 wml_375 wst_376 ⟨by decide, by decide, pd_X6_legAt⟩ (fun x hx => by cases hx) (fun v60 => ?_)
        refine I_istore 65 [(6, .int v60), (5, .int v50), (0, .ref x0), (1, .int x1), (2, .int x2), (3, .int x3), (4, .int x4)] dX6_isAlike_63 rfl (by decide) rfl ?_
        refine I_aload_n 2 66 dX6_isAlike_65 rfl rfl rfl ?_
        refine I_getA 69 dX6_isAlike_66 rfl cl7 (by decide) wfl_74 sameF_rfl (fun v66 => ?_)
        refine I_iload 1 71 dX6_isAlike_69 rfl rfl ?_
        refine I_iald 72 dX6_isAlike_71 rfl (fun v71 => ?_)
        refine I_aload_n 2 73 dX6_isAlike_72 rfl rfl rfl ?_
        refine I_getA 76 dX6_isAlike_73 rfl cl7 (by decide) wfl_74 sameF_rfl (fun v73 => ?_)
        refine I_iload 0 78 dX6_isAlike_76 rfl rfl ?_
        refine I_iald 79 dX6_isAlike_78 rfl (fun v78 => ?_)
        refine I_icmp_ne 120 82 dX6_isAlike_79 rfl rfl (fun _ => ?_) (fun _ => ?_)
        · refine I_aload_n 2 83 dX6_isAlike_82 rfl rfl rfl ?_
          refine I_getA 86 dX6_isAlike_83 rfl cl7 (by decide) wfl_75 sameF_rfl (fun v83 => ?_)
          refine I_iload 1 88 dX6_isAlike_86 rfl rfl ?_
          refine I_iald 89 dX6_isAlike_88 rfl (fun v88 => ?_)
          refine I_aload_n 2 90 dX6_isAlike_89 rfl rfl rfl ?_
          refine I_getA 93 dX6_isAlike_90 rfl cl7 (by decide) wfl_75 sameF_rfl (fun v90 => ?_)
          refine I_iload 0 95 dX6_isAlike_93 rfl rfl ?_
          refine I_iald 96 dX6_isAlike_95 rfl (fun v95 => ?_)
          refine I_icmp_ne 120 99 dX6_isAlike_96 rfl rfl (fun _ => ?_) (fun _ => ?_)
          · refine I_aload_n 2 100 dX6_isAlike_99 rfl rfl rfl ?_
            refine I_getA 103 dX6_isAlike_100 rfl cl7 (by decide) wfl_76 sameF_rfl (fun v100 => ?_)
            refine I_iload 1 105 dX6_isAlike_103 rfl rfl ?_
            refine I_iald 106 dX6_isAlike_105 rfl (fun v105 => ?_)
            refine I_aload_n 2 107 dX6_isAlike_106 rfl rfl rfl ?_
            refine I_getA 110 dX6_isAlike_107 rfl cl7 (by decide) wfl_76 sameF_rfl (fun v107 => ?_)
            refine I_iload 0 112 dX6_isAlike_110 rfl rfl ?_
            refine I_iald 113 dX6_isAlike_112 rfl (fun v112 => ?_)
            refine I_icmp_ne 120 116 dX6_isAlike_113 rfl rfl (fun _ => ?_) (fun _ => ?_)
            · refine I_iconst (1 : Int32) 117 dX6_isAlike_116 rfl (by decide) ?_
              refine I_goto 121 dX6_isAlike_117 rfl ?_
              refine I_sub [(0, .ref x0), (1, .int x1), (2, .int x2), (4, .int x4)] [2, 3, 4, 6] rfl ?_
              exact I_X6_isAlike_b121 hst x0 x1 x2 x4 (1 : Int32) _ ih
            · refine I_sub [(0, .ref x0), (1, .int x1), (2, .int x2), (4, .int x4)] [2, 3, 4, 6] rfl ?_
              exact I_X6_isAlike_b120 hst x0 x1 x2 x4 _ ih
          · refine I_sub [(0, .ref x0), (1, .int x1), (2, .int x2), (4, .int x4)] [2, 3, 4, 6] rfl ?_
            exact I_X6_isAlike_b120 hst x0 x1 x2 x4 _ ih
        · refine I_sub [(0, .ref x0), (1, .int x1), (2, .int x2), (4, .int x4)] [2, 3, 4, 6] rfl ?_
          exact I_X6_isAlike_b120 hst x0 x1 x2 x4 _ ih
def X6_isAlike_b24 (t0 mi : Nat) (x0 : Nat) (x1 : Int32) (x2 : Int32) (s0 : Int32) : Mo Int32 :=
    X6_isAlike_L28 t0 mi x0 x1 x2 (fun y1_3 =>
    rtZ y1_3) FU s0 (0 : Int32)
set_option maxRecDepth 20000 in
theorem I_X6_isAlike_b24 {l : Launch} {g : GX} (hst : l.stackTraces = false) (x0 : Nat) (x1 : Int32) (x2 : Int32) (s0 : Int32) : I l g M_X6_isAlike cvI 24 [(0, .ref x0), (1, .int x1), (2, .int x2)] [.int s0] (X6_isAlike_b24 (gt0 g) (gmi g) x0 x1 x2 s0) := by
  unfold X6_isAlike_b24
  refine I_istore_n 25 [(3, .int s0), (0, .ref x0), (1, .int x1), (2, .int x2)] dX6_isAlike_24 rfl rfl (by decide) rfl ?_
  refine I_iconst (0 : Int32) 26 dX6_isAlike_25 rfl (by decide) ?_
  refine I_istore 28 [(4, .int (0 : Int32)), (3, .int s0), (0, .ref x0), (1, .int x1), (2, .int x2)] dX6_isAlike_26 rfl (by decide) rfl ?_
  refine I_sub [(0, .ref x0), (1, .int x1), (2, .int x2), (3, .int s0), (4, .int (0 : Int32))] [2, 3, 4, 1, 0] rfl ?_
  refine I_X6_isAlike_L28 hst x0 x1 x2 _ (fun y1_3 => ?_) FU s0 (0 : Int32)
  refine I_iload_n 0 129 dX6_isAlike_128 rfl rfl rfl ?_
  exact I_zret dX6_isAlike_129 rfl
def f_X6_isAlike (t0 mi : Nat) (x0 : Nat) (x1 : Int32) (x2 : Int32) : Mo Int32 :=
    bnd (gA' x0 7 24) fun v1 =>
    bnd (ldK 0 v1 ((2 : Int32) * x1)) fun v7 =>
    bnd (gA' x0 7 24) fun v9 =>
    bnd (ldK 0 v9 ((2 : Int32) * x2)) fun v15 =>
    (if v7 = v15 then
    X6_isAlike_b24 t0 mi x0 x1 x2 (1 : Int32)
    else
    X6_isAlike_b24 t0 mi x0 x1 x2 (0 : Int32))
set_option maxRecDepth 20000 in
theorem I_X6_isAlike {l : Launch} {g : GX} (hst : l.stackTraces = false) (x0 : Nat) (x1 : Int32) (x2 : Int32) : I l g M_X6_isAlike cvI 0 [(0, .ref x0), (1, .int x1), (2, .int x2)] [] (f_X6_isAlike (gt0 g) (gmi g) x0 x1 x2) := by
  unfold f_X6_isAlike
  refine I_aload_n 0 1 dX6_isAlike_0 rfl rfl rfl ?_
  refine I_getA 4 dX6_isAlike_1 rfl cl7 (by decide) wfl_71 sameF_rfl (fun v1 => ?_)
  refine I_iconst (2 : Int32) 5 dX6_isAlike_4 rfl (by decide) ?_
  refine I_iload_n 1 6 dX6_isAlike_5 rfl rfl rfl ?_
  refine I_imul 7 dX6_isAlike_6 rfl ?_
  refine I_iald 8 dX6_isAlike_7 rfl (fun v7 => ?_)
  refine I_aload_n 0 9 dX6_isAlike_8 rfl rfl rfl ?_
  refine I_getA 12 dX6_isAlike_9 rfl cl7 (by decide) wfl_71 sameF_rfl (fun v9 => ?_)
  refine I_iconst (2 : Int32) 13 dX6_isAlike_12 rfl (by decide) ?_
  refine I_iload_n 2 14 dX6_isAlike_13 rfl rfl rfl ?_
  refine I_imul 15 dX6_isAlike_14 rfl ?_
  refine I_iald 16 dX6_isAlike_15 rfl (fun v15 => ?_)
  refine I_icmp_ne 23 19 dX6_isAlike_16 rfl rfl (fun _ => ?_) (fun _ => ?_)
  · refine I_iconst (1 : Int32) 20 dX6_isAlike_19 rfl (by decide) ?_
    refine I_goto 24 dX6_isAlike_20 rfl ?_
    refine I_sub [(0, .ref x0), (1, .int x1), (2, .int x2)] [0, 1, 2] rfl ?_
    exact I_X6_isAlike_b24 hst x0 x1 x2 (1 : Int32)
  · refine I_iconst (0 : Int32) 24 dX6_isAlike_23 rfl (by decide) ?_
    refine I_sub [(0, .ref x0), (1, .int x1), (2, .int x2)] [0, 1, 2] rfl ?_
    exact I_X6_isAlike_b24 hst x0 x1 x2 (0 : Int32)
theorem C_X6_isAlike {l : Launch} {g : GX} (hst : l.stackTraces = false) (x0 : Nat) (x1 : Int32) (x2 : Int32) : Cs l g M_X6_isAlike cvI [.ref x0, .int x1, .int x2] (f_X6_isAlike (gt0 g) (gmi g) x0 x1 x2) :=
  Cs_of_I [(0, .ref x0), (1, .int x1), (2, .int x2)] rfl (by decide) hst (Nat.le_of_ble_eq_true rfl) rfl (I_X6_isAlike hst x0 x1 x2)
/-! LunchMarksModel.firstLike(I)I -/
abbrev M_X6_firstLike : MS := (yX6_firstLike, cX6_firstLike, 3, (some .int), [], 2, 47)
theorem pd_X6_firstLike : (parseMethodDescriptor (mY M_X6_firstLike).desc).map (fun d => d.parameters.length) = some 1 := by decide +kernel
def X6_firstLike_b22 (t0 mi : Nat) (kh2 : Int32 → Mo Int32) (x0 : Nat) (x1 : Int32) (x2 : Int32) : Mo Int32 :=
    kh2 (x2 + 1)
set_option maxRecDepth 20000 in
theorem I_X6_firstLike_b22 {l : Launch} {g : GX} (hst : l.stackTraces = false) (x0 : Nat) (x1 : Int32) (x2 : Int32) (kh2 : Int32 → Mo Int32) (hkh2 : ∀ (z2 : Int32), I l g M_X6_firstLike cvI 2 [(0, .ref x0), (1, .int x1), (2, .int z2)] [] (kh2 z2)) : I l g M_X6_firstLike cvI 22 [(0, .ref x0), (1, .int x1), (2, .int x2)] [] (X6_firstLike_b22 (gt0 g) (gmi g) kh2 x0 x1 x2) := by
  unfold X6_firstLike_b22
  refine I_iinc 25 (x2 + 1) [(2, .int (x2 + 1)), (0, .ref x0), (1, .int x1)] 2 dX6_firstLike_22 rfl rfl rfl (by decide) rfl ?_
  refine I_goto 2 dX6_firstLike_25 rfl ?_
  refine I_sub [(0, .ref x0), (1, .int x1), (2, .int (x2 + 1))] [1, 2, 0] rfl ?_
  exact hkh2 (x2 + 1)
def X6_firstLike_L2 (t0 mi : Nat) (x0 : Nat) (x1 : Int32) (kx : Int32 → Mo Int32) : Nat → Int32 → Mo Int32
  | 0, _ => flr
  | n + 1, x2 =>
    bnd (gA' x0 7 23) fun v3 =>
    bnd (ldK 2 v3 ((2 : Int32) * x2)) fun v9 =>
    (if v9 = 0 then
    X6_firstLike_b22 t0 mi (X6_firstLike_L2 t0 mi x0 x1 kx n) x0 x1 x2
    else
    bnd (vc x0 7 (f_X6_isAlike t0 mi x0 x2 x1)) fun v16 =>
    (if v16 = 0 then
    X6_firstLike_b22 t0 mi (X6_firstLike_L2 t0 mi x0 x1 kx n) x0 x1 x2
    else
    kx x2))
set_option maxRecDepth 20000 in
theorem I_X6_firstLike_L2 {l : Launch} {g : GX} (hst : l.stackTraces = false) (x0 : Nat) (x1 : Int32) (kx : Int32 → Mo Int32) (hkx : ∀ (z2 : Int32), I l g M_X6_firstLike cvI 28 [(2, .int z2)] [] (kx z2)) : ∀ (n : Nat) (x2 : Int32), I l g M_X6_firstLike cvI 2 [(0, .ref x0), (1, .int x1), (2, .int x2)] [] (X6_firstLike_L2 (gt0 g) (gmi g) x0 x1 kx n x2) := by
  intro n
  induction n with
  | zero => intro x2; rw [X6_firstLike_L2]; exact I_flr
  | succ n ih =>
    intro x2; rw [X6_firstLike_L2]
    refine I_aload_n 0 3 dX6_firstLike_2 rfl rfl rfl ?_
    refine I_getA 6 dX6_firstLike_3 rfl cl7 (by decide) wfl_70 sameF_rfl (fun v3 => ?_)
    refine I_iconst (2 : Int32) 7 dX6_firstLike_6 rfl (by decide) ?_
    refine I_iload_n 2 8 dX6_firstLike_7 rfl rfl rfl ?_
    refine I_imul 9 dX6_firstLike_8 rfl ?_
    refine I_zald 10 dX6_firstLike_9 rfl (fun v9 => ?_)
    refine I_if_eq 22 13 dX6_firstLike_10 rfl rfl (fun _ => ?_) (fun _ => ?_)
    · refine I_sub [(0, .ref x0), (1, .int x1), (2, .int x2)] [0, 1, 2] rfl ?_
      exact I_X6_firstLike_b22 hst x0 x1 x2 _ ih
    · refine I_aload_n 0 14 dX6_firstLike_13 rfl rfl rfl ?_
      refine I_iload_n 2 15 dX6_firstLike_14 rfl rfl rfl ?_
      refine I_iload_n 1 16 dX6_firstLike_15 rfl rfl rfl ?_
      refine I_callVi (As := [.int x2, .int x1]) (rest := []) 19 (C_X6_isAlike hst x0 x2 x1) dX6_firstLike_16 rfl cl7 rfl (by decide) (Nat.le_of_ble_eq_true rfl) wcd_568 win_200 wml_569 wim_570 wse_571 ⟨by decide, by decide, pd_X6_isAlike⟩ (fun x hx => by cases hx) (fun v16 => ?_)
      refine I_if_ne 28 22 dX6_firstLike_19 rfl rfl (fun _ => ?_) (fun _ => ?_)
      · refine I_sub [(0, .ref x0), (1, .int x1), (2, .int x2)] [0, 1, 2] rfl ?_
        exact I_X6_firstLike_b22 hst x0 x1 x2 _ ih
      · refine I_sub [(2, .int x2)] [2] rfl ?_
        exact hkx x2
def f_X6_firstLike (t0 mi : Nat) (x0 : Nat) (x1 : Int32) : Mo Int32 :=
    X6_firstLike_L2 t0 mi x0 x1 (fun y1_2 =>
    rt y1_2) FU (0 : Int32)
set_option maxRecDepth 20000 in
theorem I_X6_firstLike {l : Launch} {g : GX} (hst : l.stackTraces = false) (x0 : Nat) (x1 : Int32) : I l g M_X6_firstLike cvI 0 [(0, .ref x0), (1, .int x1)] [] (f_X6_firstLike (gt0 g) (gmi g) x0 x1) := by
  unfold f_X6_firstLike
  refine I_iconst (0 : Int32) 1 dX6_firstLike_0 rfl (by decide) ?_
  refine I_istore_n 2 [(2, .int (0 : Int32)), (0, .ref x0), (1, .int x1)] dX6_firstLike_1 rfl rfl (by decide) rfl ?_
  refine I_sub [(0, .ref x0), (1, .int x1), (2, .int (0 : Int32))] [1, 2, 0] rfl ?_
  refine I_X6_firstLike_L2 hst x0 x1 _ (fun y1_2 => ?_) FU (0 : Int32)
  refine I_iload_n 0 29 dX6_firstLike_28 rfl rfl rfl ?_
  exact I_iret dX6_firstLike_29 rfl
theorem C_X6_firstLike {l : Launch} {g : GX} (hst : l.stackTraces = false) (x0 : Nat) (x1 : Int32) : Cs l g M_X6_firstLike cvI [.ref x0, .int x1] (f_X6_firstLike (gt0 g) (gmi g) x0 x1) :=
  Cs_of_I [(0, .ref x0), (1, .int x1)] rfl (by decide) hst (Nat.le_of_ble_eq_true rfl) rfl (I_X6_firstLike hst x0 x1)
/-! LunchMarksModel.marksUpTo(I)I -/
abbrev M_X6_marksUpTo : MS := (yX6_marksUpTo, cX6_marksUpTo, 4, (some .int), [], 3, 69)
theorem pd_X6_marksUpTo : (parseMethodDescriptor (mY M_X6_marksUpTo).desc).map (fun d => d.parameters.length) = some 1 := by decide +kernel
def X6_marksUpTo_b35 (t0 mi : Nat) (kh4 : Int32 → Int32 → Mo Int32) (x0 : Nat) (x1 : Int32) (x3 : Int32) (s0 : Int32) (s1 : Int32) : Mo Int32 :=
    kh4 (s1 + s0) (x3 + 1)
set_option maxRecDepth 20000 in
theorem I_X6_marksUpTo_b35 {l : Launch} {g : GX} (hst : l.stackTraces = false) (x0 : Nat) (x1 : Int32) (x3 : Int32) (s0 : Int32) (s1 : Int32) (kh4 : Int32 → Int32 → Mo Int32) (hkh4 : ∀ (z2 : Int32) (z3 : Int32), I l g M_X6_marksUpTo cvI 4 [(0, .ref x0), (1, .int x1), (2, .int z2), (3, .int z3)] [] (kh4 z2 z3)) : I l g M_X6_marksUpTo cvI 35 [(0, .ref x0), (1, .int x1), (3, .int x3)] [.int s0, .int s1] (X6_marksUpTo_b35 (gt0 g) (gmi g) kh4 x0 x1 x3 s0 s1) := by
  unfold X6_marksUpTo_b35
  refine I_iadd 36 dX6_marksUpTo_35 rfl ?_
  refine I_istore_n 37 [(2, .int (s1 + s0)), (0, .ref x0), (1, .int x1), (3, .int x3)] dX6_marksUpTo_36 rfl rfl (by decide) rfl ?_
  refine I_iinc 40 (x3 + 1) [(3, .int (x3 + 1)), (2, .int (s1 + s0)), (0, .ref x0), (1, .int x1)] 3 dX6_marksUpTo_37 rfl rfl rfl (by decide) rfl ?_
  refine I_goto 4 dX6_marksUpTo_40 rfl ?_
  refine I_sub [(0, .ref x0), (1, .int x1), (2, .int (s1 + s0)), (3, .int (x3 + 1))] [2, 3, 1, 0] rfl ?_
  exact hkh4 (s1 + s0) (x3 + 1)
def X6_marksUpTo_b34 (t0 mi : Nat) (kh4 : Int32 → Int32 → Mo Int32) (x0 : Nat) (x1 : Int32) (x3 : Int32) (s0 : Int32) : Mo Int32 :=
    X6_marksUpTo_b35 t0 mi kh4 x0 x1 x3 (0 : Int32) s0
set_option maxRecDepth 20000 in
theorem I_X6_marksUpTo_b34 {l : Launch} {g : GX} (hst : l.stackTraces = false) (x0 : Nat) (x1 : Int32) (x3 : Int32) (s0 : Int32) (kh4 : Int32 → Int32 → Mo Int32) (hkh4 : ∀ (z2 : Int32) (z3 : Int32), I l g M_X6_marksUpTo cvI 4 [(0, .ref x0), (1, .int x1), (2, .int z2), (3, .int z3)] [] (kh4 z2 z3)) : I l g M_X6_marksUpTo cvI 34 [(0, .ref x0), (1, .int x1), (3, .int x3)] [.int s0] (X6_marksUpTo_b34 (gt0 g) (gmi g) kh4 x0 x1 x3 s0) := by
  unfold X6_marksUpTo_b34
  refine I_iconst (0 : Int32) 35 dX6_marksUpTo_34 rfl (by decide) ?_
  refine I_sub [(0, .ref x0), (1, .int x1), (3, .int x3)] [0, 1, 2] rfl ?_
  exact I_X6_marksUpTo_b35 hst x0 x1 x3 (0 : Int32) s0 _ hkh4
def X6_marksUpTo_L4 (t0 mi : Nat) (x0 : Nat) (x1 : Int32) (kx : Int32 → Mo Int32) : Nat → Int32 → Int32 → Mo Int32
  | 0, _, _ => flr
  | n + 1, x2, x3 =>
    (if x1 ≤ x3 then
    kx x2
    else
    bnd (gA' x0 7 23) fun v11 =>
    bnd (ldK 2 v11 ((2 : Int32) * x3)) fun v17 =>
    (if v17 = 0 then
    X6_marksUpTo_b34 t0 mi (X6_marksUpTo_L4 t0 mi x0 x1 kx n) x0 x1 x3 x2
    else
    bnd (vc x0 7 (f_X6_firstLike t0 mi x0 x3)) fun v23 =>
    (if v23 = x3 then
    X6_marksUpTo_b35 t0 mi (X6_marksUpTo_L4 t0 mi x0 x1 kx n) x0 x1 x3 (1 : Int32) x2
    else
    X6_marksUpTo_b34 t0 mi (X6_marksUpTo_L4 t0 mi x0 x1 kx n) x0 x1 x3 x2)))
set_option maxRecDepth 20000 in
theorem I_X6_marksUpTo_L4 {l : Launch} {g : GX} (hst : l.stackTraces = false) (x0 : Nat) (x1 : Int32) (kx : Int32 → Mo Int32) (hkx : ∀ (z2 : Int32), I l g M_X6_marksUpTo cvI 43 [(2, .int z2)] [] (kx z2)) : ∀ (n : Nat) (x2 : Int32) (x3 : Int32), I l g M_X6_marksUpTo cvI 4 [(0, .ref x0), (1, .int x1), (2, .int x2), (3, .int x3)] [] (X6_marksUpTo_L4 (gt0 g) (gmi g) x0 x1 kx n x2 x3) := by
  intro n
  induction n with
  | zero => intro x2 x3; rw [X6_marksUpTo_L4]; exact I_flr
  | succ n ih =>
    intro x2 x3; rw [X6_marksUpTo_L4]
    refine I_iload_n 3 5 dX6_marksUpTo_4 rfl rfl rfl ?_
    refine I_iload_n 1 6 dX6_marksUpTo_5 rfl rfl rfl ?_
    refine I_icmp_ge 43 9 dX6_marksUpTo_6 rfl rfl (fun _ => ?_) (fun _ => ?_)
    · refine I_sub [(2, .int x2)] [2] rfl ?_
      exact hkx x2
    · refine I_iload_n 2 10 dX6_marksUpTo_9 rfl rfl rfl ?_
      refine I_aload_n 0 11 dX6_marksUpTo_10 rfl rfl rfl ?_
      refine I_getA 14 dX6_marksUpTo_11 rfl cl7 (by decide) wfl_70 sameF_rfl (fun v11 => ?_)
      refine I_iconst (2 : Int32) 15 dX6_marksUpTo_14 rfl (by decide) ?_
      refine I_iload_n 3 16 dX6_marksUpTo_15 rfl rfl rfl ?_
      refine I_imul 17 dX6_marksUpTo_16 rfl ?_
      refine I_zald 18 dX6_marksUpTo_17 rfl (fun v17 => ?_)
      refine I_if_eq 34 21 dX6_marksUpTo_18 rfl rfl (fun _ => ?_) (fun _ => ?_)
      · refine I_sub [(0, .ref x0), (1, .int x1), (3, .int x3)] [0, 1, 3] rfl ?_
        exact I_X6_marksUpTo_b34 hst x0 x1 x3 x2 _ ih
      · refine I_aload_n 0 22 dX6_marksUpTo_21 rfl rfl rfl ?_
        refine I_iload_n 3 23 dX6_marksUpTo_22 rfl rfl rfl ?_
        refine I_callVi (As := [.int x3]) (rest := [.int x2]) 26 (C_X6_firstLike hst x0 x3) dX6_marksUpTo_23 rfl cl7 rfl (by decide) (Nat.le_of_ble_eq_true rfl) wcd_572 win_200 wml_573 wim_574 wse_575 ⟨by decide, by decide, pd_X6_firstLike⟩ (fun x hx => by cases hx) (fun v23 => ?_)
        refine I_iload_n 3 27 dX6_marksUpTo_26 rfl rfl rfl ?_
        refine I_icmp_ne 34 30 dX6_marksUpTo_27 rfl rfl (fun _ => ?_) (fun _ => ?_)
        · refine I_iconst (1 : Int32) 31 dX6_marksUpTo_30 rfl (by decide) ?_
          refine I_goto 35 dX6_marksUpTo_31 rfl ?_
          refine I_sub [(0, .ref x0), (1, .int x1), (3, .int x3)] [0, 1, 3] rfl ?_
          exact I_X6_marksUpTo_b35 hst x0 x1 x3 (1 : Int32) x2 _ ih
        · refine I_sub [(0, .ref x0), (1, .int x1), (3, .int x3)] [0, 1, 3] rfl ?_
          exact I_X6_marksUpTo_b34 hst x0 x1 x3 x2 _ ih
def f_X6_marksUpTo (t0 mi : Nat) (x0 : Nat) (x1 : Int32) : Mo Int32 :=
    X6_marksUpTo_L4 t0 mi x0 x1 (fun y1_2 =>
    rt y1_2) FU (0 : Int32) (0 : Int32)
set_option maxRecDepth 20000 in
theorem I_X6_marksUpTo {l : Launch} {g : GX} (hst : l.stackTraces = false) (x0 : Nat) (x1 : Int32) : I l g M_X6_marksUpTo cvI 0 [(0, .ref x0), (1, .int x1)] [] (f_X6_marksUpTo (gt0 g) (gmi g) x0 x1) := by
  unfold f_X6_marksUpTo
  refine I_iconst (0 : Int32) 1 dX6_marksUpTo_0 rfl (by decide) ?_
  refine I_istore_n 2 [(2, .int (0 : Int32)), (0, .ref x0), (1, .int x1)] dX6_marksUpTo_1 rfl rfl (by decide) rfl ?_
  refine I_iconst (0 : Int32) 3 dX6_marksUpTo_2 rfl (by decide) ?_
  refine I_istore_n 4 [(3, .int (0 : Int32)), (2, .int (0 : Int32)), (0, .ref x0), (1, .int x1)] dX6_marksUpTo_3 rfl rfl (by decide) rfl ?_
  refine I_sub [(0, .ref x0), (1, .int x1), (2, .int (0 : Int32)), (3, .int (0 : Int32))] [2, 3, 1, 0] rfl ?_
  refine I_X6_marksUpTo_L4 hst x0 x1 _ (fun y1_2 => ?_) FU (0 : Int32) (0 : Int32)
  refine I_iload_n 0 44 dX6_marksUpTo_43 rfl rfl rfl ?_
  exact I_iret dX6_marksUpTo_44 rfl
theorem C_X6_marksUpTo {l : Launch} {g : GX} (hst : l.stackTraces = false) (x0 : Nat) (x1 : Int32) : Cs l g M_X6_marksUpTo cvI [.ref x0, .int x1] (f_X6_marksUpTo (gt0 g) (gmi g) x0 x1) :=
  Cs_of_I [(0, .ref x0), (1, .int x1)] rfl (by decide) hst (Nat.le_of_ble_eq_true rfl) rfl (I_X6_marksUpTo hst x0 x1)
