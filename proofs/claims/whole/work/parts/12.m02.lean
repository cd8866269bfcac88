/-! LunchMarksModel.node(II)I -/
abbrev M_X6_node : MS := (yX6_node, cX6_node, 2, (some .int), [], 0, 0)
theorem pd_X6_node : (parseMethodDescriptor (mY M_X6_node).desc).map (fun d => d.parameters.length) = some 2 := by decide +kernel
def f_X6_node (t0 mi : Nat) (x0 : Int32) (x1 : Int32) : Mo Int32 :=
    rt (((10 : Int32) * x0) + x1)
set_option maxRecDepth 20000 in
theorem I_X6_node {l : Launch} {g : GX} (hst : l.stackTraces = false) (x0 : Int32) (x1 : Int32) : I l g M_X6_node cvI 0 [(0, .int x0), (1, .int x1)] [] (f_X6_node (gt0 g) (gmi g) x0 x1) := by
  unfold f_X6_node
  refine I_bipush (10 : Int32) 2 dX6_node_0 rfl (by decide) ?_
  refine I_iload_n 0 3 dX6_node_2 rfl rfl rfl ?_
  refine I_imul 4 dX6_node_3 rfl ?_
  refine I_iload_n 1 5 dX6_node_4 rfl rfl rfl ?_
  refine I_iadd 6 dX6_node_5 rfl ?_
  exact I_iret dX6_node_6 rfl
theorem C_X6_node {l : Launch} {g : GX} (hst : l.stackTraces = false) (x0 : Int32) (x1 : Int32) : Cs l g M_X6_node cvI [.int x0, .int x1] (f_X6_node (gt0 g) (gmi g) x0 x1) :=
  Cs_of_I [(0, .int x0), (1, .int x1)] rfl (by decide) hst (Nat.le_of_ble_eq_true rfl) rfl (I_X6_node hst x0 x1)
/-! LunchMarksModel.stop(III)I -/
abbrev M_X6_stop : MS := (yX6_stop, cX6_stop, 7, (some .int), [], 1, 21)
theorem pd_X6_stop : (parseMethodDescriptor (mY M_X6_stop).desc).map (fun d => d.parameters.length) = some 3 := by decide +kernel
def X6_stop_b56 (t0 mi : Nat) (kh32 : Int32 → Int32 → Mo Int32) (x0 : Nat) (x1 : Int32) (x2 : Int32) (x3 : Int32) (x4 : Int32) (x5 : Int32) (x6 : Int32) : Mo Int32 :=
    kh32 x5 (x6 + 1)
set_option maxRecDepth 20000 in
theorem I_X6_stop_b56 {l : Launch} {g : GX} (hst : l.stackTraces = false) (x0 : Nat) (x1 : Int32) (x2 : Int32) (x3 : Int32) (x4 : Int32) (x5 : Int32) (x6 : Int32) (kh32 : Int32 → Int32 → Mo Int32) (hkh32 : ∀ (z5 : Int32) (z6 : Int32), I l g M_X6_stop cvI 32 [(0, .ref x0), (1, .int x1), (2, .int x2), (3, .int x3), (4, .int x4), (5, .int z5), (6, .int z6)] [] (kh32 z5 z6)) : I l g M_X6_stop cvI 56 [(0, .ref x0), (1, .int x1), (2, .int x2), (3, .int x3), (4, .int x4), (5, .int x5), (6, .int x6)] [] (X6_stop_b56 (gt0 g) (gmi g) kh32 x0 x1 x2 x3 x4 x5 x6) := by
  unfold X6_stop_b56
  refine I_iinc 59 (x6 + 1) [(6, .int (x6 + 1)), (0, .ref x0), (1, .int x1), (2, .int x2), (3, .int x3), (4, .int x4), (5, .int x5)] 6 dX6_stop_56 rfl rfl rfl (by decide) rfl ?_
  refine I_goto 32 dX6_stop_59 rfl ?_
  refine I_sub [(0, .ref x0), (1, .int x1), (2, .int x2), (3, .int x3), (4, .int x4), (5, .int x5), (6, .int (x6 + 1))] [1, 2, 3, 4, 5, 6, 0] rfl ?_
  exact hkh32 x5 (x6 + 1)
def X6_stop_L32 (t0 mi : Nat) (x0 : Nat) (x1 : Int32) (x2 : Int32) (x3 : Int32) (x4 : Int32) (kx : Int32 → Mo Int32) : Nat → Int32 → Int32 → Mo Int32
  | 0, _, _ => flr
  | n + 1, x5, x6 =>
    (if x4 ≤ x6 then
    kx x5
    else
    bnd (gA' x0 7 11) fun v40 =>
    bnd (f_X6_node t0 mi x1 x6) fun v46 =>
    bnd (ldK 0 v40 v46) fun v49 =>
    (if v49 ≤ 0 then
    X6_stop_b56 t0 mi (X6_stop_L32 t0 mi x0 x1 x2 x3 x4 kx n) x0 x1 x2 x3 x4 x5 x6
    else
    X6_stop_b56 t0 mi (X6_stop_L32 t0 mi x0 x1 x2 x3 x4 kx n) x0 x1 x2 x3 x4 (1 : Int32) x6))
set_option maxRecDepth 20000 in
theorem I_X6_stop_L32 {l : Launch} {g : GX} (hst : l.stackTraces = false) (x0 : Nat) (x1 : Int32) (x2 : Int32) (x3 : Int32) (x4 : Int32) (kx : Int32 → Mo Int32) (hkx : ∀ (z5 : Int32), I l g M_X6_stop cvI 62 [(0, .ref x0), (1, .int x1), (2, .int x2), (3, .int x3), (4, .int x4), (5, .int z5)] [] (kx z5)) : ∀ (n : Nat) (x5 : Int32) (x6 : Int32), I l g M_X6_stop cvI 32 [(0, .ref x0), (1, .int x1), (2, .int x2), (3, .int x3), (4, .int x4), (5, .int x5), (6, .int x6)] [] (X6_stop_L32 (gt0 g) (gmi g) x0 x1 x2 x3 x4 kx n x5 x6) := by
  intro n
  induction n with
  | zero => intro x5 x6; rw [X6_stop_L32]; exact I_flr
  | succ n ih =>
    intro x5 x6; rw [X6_stop_L32]
    refine I_iload 6 34 dX6_stop_32 rfl rfl ?_
    refine I_iload 4 36 dX6_stop_34 rfl rfl ?_
    refine I_icmp_ge 62 39 dX6_stop_36 rfl rfl (fun _ => ?_) (fun _ => ?_)
    · refine I_sub [(0, .ref x0), (1, .int x1), (2, .int x2), (3, .int x3), (4, .int x4), (5, .int x5)] [0, 1, 2, 3, 4, 5] rfl ?_
      exact hkx x5
    · refine I_aload_n 0 40 dX6_stop_39 rfl rfl rfl ?_
      refine I_getA 43 dX6_stop_40 rfl cl7 (by decide) wfl_57 sameF_rfl (fun v40 => ?_)
      refine I_iload_n 1 44 dX6_stop_43 rfl rfl rfl ?_
      refine I_iload 6 46 dX6_stop_44 rfl rfl ?_
      refine I_callSi (As := [.int x1, .int x6]) (rest := [.ref v40]) 49 (C_X6_node hst x1 x6) dX6_stop_46 rfl rfl (by decide) (Nat.le_of_ble_eq_true rfl) wcd_208 win_200 wml_209 wst_210 ⟨by decide, by decide, pd_X6_node⟩ (fun x hx => by cases hx) (fun v46 => ?_)
      refine I_iald 50 dX6_stop_49 rfl (fun v49 => ?_)
      refine I_if_le 56 53 dX6_stop_50 rfl rfl (fun _ => ?_) (fun _ => ?_)
      · refine I_sub [(0, .ref x0), (1, .int x1), (2, .int x2), (3, .int x3), (4, .int x4), (5, .int x5), (6, .int x6)] [0, 1, 2, 3, 4, 5, 6] rfl ?_
        exact I_X6_stop_b56 hst x0 x1 x2 x3 x4 x5 x6 _ ih
      · refine I_iconst (1 : Int32) 54 dX6_stop_53 rfl (by decide) ?_
        refine I_istore 56 [(5, .int (1 : Int32)), (0, .ref x0), (1, .int x1), (2, .int x2), (3, .int x3), (4, .int x4), (6, .int x6)] dX6_stop_54 rfl (by decide) rfl ?_
        refine I_sub [(0, .ref x0), (1, .int x1), (2, .int x2), (3, .int x3), (4, .int x4), (5, .int (1 : Int32)), (6, .int x6)] [1, 2, 3, 4, 5, 0, 6] rfl ?_
        exact I_X6_stop_b56 hst x0 x1 x2 x3 x4 (1 : Int32) x6 _ ih
def X6_stop_b97 (t0 mi : Nat) : Mo Int32 :=
    rt (-1 : Int32)
set_option maxRecDepth 20000 in
theorem I_X6_stop_b97 {l : Launch} {g : GX} (hst : l.stackTraces = false) : I l g M_X6_stop cvI 97 [] [] (X6_stop_b97 (gt0 g) (gmi g)) := by
  unfold X6_stop_b97
  refine I_iconst (-1 : Int32) 98 dX6_stop_97 rfl (by decide) ?_
  exact I_iret dX6_stop_98 rfl
def X6_stop_b140 (t0 mi : Nat) (x0 : Nat) (x1 : Int32) (x2 : Int32) (x3 : Int32) (x4 : Int32) : Mo Int32 :=
    bnd (gA' x0 7 9) fun v141 =>
    bnd (f_X6_node t0 mi x1 x4) fun v147 =>
    bnd (stK 0 v141 v147 x2) fun _ =>
    bnd (gA' x0 7 10) fun v153 =>
    bnd (f_X6_node t0 mi x1 x4) fun v159 =>
    bnd (stK 0 v153 v159 x3) fun _ =>
    bnd (gA' x0 7 8) fun v165 =>
    bnd (ldK 0 v165 x1) fun v170 =>
    bnd (stK 0 v165 x1 (v170 + (1 : Int32))) fun _ =>
    rt x4
set_option maxRecDepth 20000 in
theorem I_X6_stop_b140 {l : Launch} {g : GX} (hst : l.stackTraces = false) (x0 : Nat) (x1 : Int32) (x2 : Int32) (x3 : Int32) (x4 : Int32) : I l g M_X6_stop cvI 140 [(0, .ref x0), (1, .int x1), (2, .int x2), (3, .int x3), (4, .int x4)] [] (X6_stop_b140 (gt0 g) (gmi g) x0 x1 x2 x3 x4) := by
  unfold X6_stop_b140
  refine I_aload_n 0 141 dX6_stop_140 rfl rfl rfl ?_
  refine I_getA 144 dX6_stop_141 rfl cl7 (by decide) wfl_55 sameF_rfl (fun v141 => ?_)
  refine I_iload_n 1 145 dX6_stop_144 rfl rfl rfl ?_
  refine I_iload 4 147 dX6_stop_145 rfl rfl ?_
  refine I_callSi (As := [.int x1, .int x4]) (rest := [.ref v141]) 150 (C_X6_node hst x1 x4) dX6_stop_147 rfl rfl (by decide) (Nat.le_of_ble_eq_true rfl) wcd_208 win_200 wml_209 wst_210 ⟨by decide, by decide, pd_X6_node⟩ (fun x hx => by cases hx) (fun v147 => ?_)
  refine I_iload_n 2 151 dX6_stop_150 rfl rfl rfl ?_
  refine I_iast 152 dX6_stop_151 rfl ?_
  refine I_aload_n 0 153 dX6_stop_152 rfl rfl rfl ?_
  refine I_getA 156 dX6_stop_153 rfl cl7 (by decide) wfl_56 sameF_rfl (fun v153 => ?_)
  refine I_iload_n 1 157 dX6_stop_156 rfl rfl rfl ?_
  refine I_iload 4 159 dX6_stop_157 rfl rfl ?_
  refine I_callSi (As := [.int x1, .int x4]) (rest := [.ref v153]) 162 (C_X6_node hst x1 x4) dX6_stop_159 rfl rfl (by decide) (Nat.le_of_ble_eq_true rfl) wcd_208 win_200 wml_209 wst_210 ⟨by decide, by decide, pd_X6_node⟩ (fun x hx => by cases hx) (fun v159 => ?_)
  refine I_iload_n 3 163 dX6_stop_162 rfl rfl rfl ?_
  refine I_iast 164 dX6_stop_163 rfl ?_
  refine I_aload_n 0 165 dX6_stop_164 rfl rfl rfl ?_
  refine I_getA 168 dX6_stop_165 rfl cl7 (by decide) wfl_54 sameF_rfl (fun v165 => ?_)
  refine I_iload_n 1 169 dX6_stop_168 rfl rfl rfl ?_
  refine I_dup2 170 dX6_stop_169 rfl rfl rfl ?_
  refine I_iald 171 dX6_stop_170 rfl (fun v170 => ?_)
  refine I_iconst (1 : Int32) 172 dX6_stop_171 rfl (by decide) ?_
  refine I_iadd 173 dX6_stop_172 rfl ?_
  refine I_iast 174 dX6_stop_173 rfl ?_
  refine I_iload 4 176 dX6_stop_174 rfl rfl ?_
  exact I_iret dX6_stop_176 rfl
def X6_stop_b138 (t0 mi : Nat) : Mo Int32 :=
    rt (-1 : Int32)
set_option maxRecDepth 20000 in
theorem I_X6_stop_b138 {l : Launch} {g : GX} (hst : l.stackTraces = false) : I l g M_X6_stop cvI 138 [] [] (X6_stop_b138 (gt0 g) (gmi g)) := by
  unfold X6_stop_b138
  refine I_iconst (-1 : Int32) 139 dX6_stop_138 rfl (by decide) ?_
  exact I_iret dX6_stop_139 rfl
def f_X6_stop (t0 mi : Nat) (x0 : Nat) (x1 : Int32) (x2 : Int32) (x3 : Int32) : Mo Int32 :=
    bnd (pV x0 7 0 (.int (0 : Int32))) fun _ =>
    bnd (vc x0 7 (f_X6_isTrain t0 mi x0 x1)) fun v7 =>
    (if v7 = 0 then
    bnd (vc x0 7 (f_X6_fail t0 mi x0)) fun v14 =>
    rt v14
    else
    bnd (gA' x0 7 8) fun v19 =>
    bnd (ldK 0 v19 x1) fun v23 =>
    X6_stop_L32 t0 mi x0 x1 x2 x3 v23 (fun y1_5 =>
    (if v23 = (10 : Int32) then
    X6_stop_b97 t0 mi
    else
    (if y1_5 = 0 then
    (if x2 < 0 then
    X6_stop_b97 t0 mi
    else
    bnd (gI x0 7 2) fun v80 =>
    (if v80 ≤ x2 then
    X6_stop_b97 t0 mi
    else
    (if x3 < 0 then
    X6_stop_b97 t0 mi
    else
    (if x3 ≤ (1439 : Int32) then
    (if v23 ≤ 0 then
    X6_stop_b140 t0 mi x0 x1 x2 x3 v23
    else
    bnd (gA' x0 7 10) fun v105 =>
    bnd (f_X6_node t0 mi x1 (v23 - (1 : Int32))) fun v113 =>
    bnd (ldK 0 v105 v113) fun v116 =>
    (if x3 ≤ v116 then
    X6_stop_b138 t0 mi
    else
    bnd (gA' x0 7 9) fun v122 =>
    bnd (f_X6_node t0 mi x1 (v23 - (1 : Int32))) fun v130 =>
    bnd (ldK 0 v122 v130) fun v133 =>
    (if v133 = x2 then
    X6_stop_b138 t0 mi
    else
    X6_stop_b140 t0 mi x0 x1 x2 x3 v23)))
    else
    X6_stop_b97 t0 mi))))
    else
    X6_stop_b97 t0 mi))) FU (0 : Int32) (0 : Int32))
set_option maxRecDepth 20000 in
theorem I_X6_stop {l : Launch} {g : GX} (hst : l.stackTraces = false) (x0 : Nat) (x1 : Int32) (x2 : Int32) (x3 : Int32) : I l g M_X6_stop cvI 0 [(0, .ref x0), (1, .int x1), (2, .int x2), (3, .int x3)] [] (f_X6_stop (gt0 g) (gmi g) x0 x1 x2 x3) := by
  unfold f_X6_stop
  refine I_aload_n 0 1 dX6_stop_0 rfl rfl rfl ?_
  refine I_iconst (0 : Int32) 2 dX6_stop_1 rfl (by decide) ?_
  refine I_put 5 dX6_stop_2 rfl cl7 (by decide) wfl_88 sameF_rfl rfl rfl rfl ?_
  refine I_aload_n 0 6 dX6_stop_5 rfl rfl rfl ?_
  refine I_iload_n 1 7 dX6_stop_6 rfl rfl rfl ?_
  refine I_callVi (As := [.int x1]) (rest := []) 10 (C_X6_isTrain hst x0 x1) dX6_stop_7 rfl cl7 rfl (by decide) (Nat.le_of_ble_eq_true rfl) wcd_199 win_200 wml_201 wim_202 wse_203 ⟨by decide, by decide, pd_X6_isTrain⟩ (fun x hx => by cases hx) (fun v7 => ?_)
  refine I_if_ne 18 13 dX6_stop_10 rfl rfl (fun _ => ?_) (fun _ => ?_)
  · refine I_aload_n 0 14 dX6_stop_13 rfl rfl rfl ?_
    refine I_callVi (As := []) (rest := []) 17 (C_X6_fail hst x0) dX6_stop_14 rfl cl7 rfl (by decide) (Nat.le_of_ble_eq_true rfl) wcd_204 win_200 wml_205 wim_206 wse_207 ⟨by decide, by decide, pd_X6_fail⟩ (fun x hx => by cases hx) (fun v14 => ?_)
    exact I_iret dX6_stop_17 rfl
  · refine I_aload_n 0 19 dX6_stop_18 rfl rfl rfl ?_
    refine I_getA 22 dX6_stop_19 rfl cl7 (by decide) wfl_54 sameF_rfl (fun v19 => ?_)
    refine I_iload_n 1 23 dX6_stop_22 rfl rfl rfl ?_
    refine I_iald 24 dX6_stop_23 rfl (fun v23 => ?_)
    refine I_istore 26 [(4, .int v23), (0, .ref x0), (1, .int x1), (2, .int x2), (3, .int x3)] dX6_stop_24 rfl (by decide) rfl ?_
    refine I_iconst (0 : Int32) 27 dX6_stop_26 rfl (by decide) ?_
    refine I_istore 29 [(5, .int (0 : Int32)), (4, .int v23), (0, .ref x0), (1, .int x1), (2, .int x2), (3, .int x3)] dX6_stop_27 rfl (by decide) rfl ?_
    refine I_iconst (0 : Int32) 30 dX6_stop_29 rfl (by decide) ?_
    refine I_istore 32 [(6, .int (0 : Int32)), (5, .int (0 : Int32)), (4, .int v23), (0, .ref x0), (1, .int x1), (2, .int x2), (3, .int x3)] dX6_stop_30 rfl (by decide) rfl ?_
    refine I_sub [(0, .ref x0), (1, .int x1), (2, .int x2), (3, .int x3), (4, .int v23), (5, .int (0 : Int32)), (6, .int (0 : Int32))] [3, 4, 5, 6, 2, 1, 0] rfl ?_
    refine I_X6_stop_L32 hst x0 x1 x2 x3 v23 _ (fun y1_5 => ?_) FU (0 : Int32) (0 : Int32)
    refine I_iload 4 64 dX6_stop_62 rfl rfl ?_
    refine I_bipush (10 : Int32) 66 dX6_stop_64 rfl (by decide) ?_
    refine I_icmp_eq 97 69 dX6_stop_66 rfl rfl (fun _ => ?_) (fun _ => ?_)
    · refine I_sub [] [] rfl ?_
      exact I_X6_stop_b97 hst
    · refine I_iload 5 71 dX6_stop_69 rfl rfl ?_
      refine I_if_ne 97 74 dX6_stop_71 rfl rfl (fun _ => ?_) (fun _ => ?_)
      · refine I_iload_n 2 75 dX6_stop_74 rfl rfl rfl ?_
        refine I_if_lt 97 78 dX6_stop_75 rfl rfl (fun _ => ?_) (fun _ => ?_)
        · refine I_sub [] [] rfl ?_
          exact I_X6_stop_b97 hst
        · refine I_iload_n 2 79 dX6_stop_78 rfl rfl rfl ?_
          refine I_aload_n 0 80 dX6_stop_79 rfl rfl rfl ?_
          refine I_getI 83 dX6_stop_80 rfl cl7 (by decide) wfl_89 sameF_rfl (fun v80 => ?_)
          refine I_icmp_ge 97 86 dX6_stop_83 rfl rfl (fun _ => ?_) (fun _ => ?_)
          · refine I_sub [] [] rfl ?_
            exact I_X6_stop_b97 hst
          · refine I_iload_n 3 87 dX6_stop_86 rfl rfl rfl ?_
            refine I_if_lt 97 90 dX6_stop_87 rfl rfl (fun _ => ?_) (fun _ => ?_)
            · refine I_sub [] [] rfl ?_
              exact I_X6_stop_b97 hst
            · refine I_iload_n 3 91 dX6_stop_90 rfl rfl rfl ?_
              refine I_sipush (1439 : Int32) 94 dX6_stop_91 rfl (by decide) ?_
              refine I_icmp_le 99 97 dX6_stop_94 rfl rfl (fun _ => ?_) (fun _ => ?_)
              · refine I_iload 4 101 dX6_stop_99 rfl rfl ?_
                refine I_if_le 140 104 dX6_stop_101 rfl rfl (fun _ => ?_) (fun _ => ?_)
                · refine I_sub [(0, .ref x0), (1, .int x1), (2, .int x2), (3, .int x3), (4, .int v23)] [0, 1, 2, 3, 4] rfl ?_
                  exact I_X6_stop_b140 hst x0 x1 x2 x3 v23
                · refine I_aload_n 0 105 dX6_stop_104 rfl rfl rfl ?_
                  refine I_getA 108 dX6_stop_105 rfl cl7 (by decide) wfl_56 sameF_rfl (fun v105 => ?_)
                  refine I_iload_n 1 109 dX6_stop_108 rfl rfl rfl ?_
                  refine I_iload 4 111 dX6_stop_109 rfl rfl ?_
                  refine I_iconst (1 : Int32) 112 dX6_stop_111 rfl (by decide) ?_
                  refine I_isub 113 dX6_stop_112 rfl ?_
                  refine I_callSi (As := [.int x1, .int (v23 - (1 : Int32))]) (rest := [.ref v105]) 116 (C_X6_node hst x1 (v23 - (1 : Int32))) dX6_stop_113 rfl rfl (by decide) (Nat.le_of_ble_eq_true rfl) wcd_208 win_200 wml_209 wst_210 ⟨by decide, by decide, pd_X6_node⟩ (fun x hx => by cases hx) (fun v113 => ?_)
                  refine I_iald 117 dX6_stop_116 rfl (fun v116 => ?_)
                  refine I_iload_n 3 118 dX6_stop_117 rfl rfl rfl ?_
                  refine I_icmp_ge 138 121 dX6_stop_118 rfl rfl (fun _ => ?_) (fun _ => ?_)
                  · refine I_sub [] [] rfl ?_
                    exact I_X6_stop_b138 hst
                  · refine I_aload_n 0 122 dX6_stop_121 rfl rfl rfl ?_
                    refine I_getA 125 dX6_stop_122 rfl cl7 (by decide) wfl_55 sameF_rfl (fun v122 => ?_)
                    refine I_iload_n 1 126 dX6_stop_125 rfl rfl rfl ?_
                    refine I_iload 4 128 dX6_stop_126 rfl rfl ?_
                    refine I_iconst (1 : Int32) 129 dX6_stop_128 rfl (by decide) ?_
                    refine I_isub 130 dX6_stop_129 rfl ?_
                    refine I_callSi (As := [.int x1, .int (v23 - (1 : Int32))]) (rest := [.ref v122]) 133 (C_X6_node hst x1 (v23 - (1 : Int32))) dX6_stop_130 rfl rfl (by decide) (Nat.le_of_ble_eq_true rfl) wcd_208 win_200 wml_209 wst_210 ⟨by decide, by decide, pd_X6_node⟩ (fun x hx => by cases hx) (fun v130 => ?_)
                    refine I_iald 134 dX6_stop_133 rfl (fun v133 => ?_)
                    refine I_iload_n 2 135 dX6_stop_134 rfl rfl rfl ?_
                    refine I_icmp_ne 140 138 dX6_stop_135 rfl rfl (fun _ => ?_) (fun _ => ?_)
                    · refine I_sub [] [] rfl ?_
                      exact I_X6_stop_b138 hst
                    · refine I_sub [(0, .ref x0), (1, .int x1), (2, .int x2), (3, .int x3), (4, .int v23)] [0, 1, 2, 3, 4] rfl ?_
                      exact I_X6_stop_b140 hst x0 x1 x2 x3 v23
              · refine I_sub [] [] rfl ?_
                exact I_X6_stop_b97 hst
      · refine I_sub [] [] rfl ?_
        exact I_X6_stop_b97 hst
theorem C_X6_stop {l : Launch} {g : GX} (hst : l.stackTraces = false) (x0 : Nat) (x1 : Int32) (x2 : Int32) (x3 : Int32) : Cs l g M_X6_stop cvI [.ref x0, .int x1, .int x2, .int x3] (f_X6_stop (gt0 g) (gmi g) x0 x1 x2 x3) :=
  Cs_of_I [(0, .ref x0), (1, .int x1), (2, .int x2), (3, .int x3)] rfl (by decide) hst (Nat.le_of_ble_eq_true rfl) rfl (I_X6_stop hst x0 x1 x2 x3)
/-! LunchMarksModel.thrown()I -/
abbrev M_X6_thrown : MS := (yX6_thrown, cX6_thrown, 1, (some .int), [], 0, 0)
theorem pd_X6_thrown : (parseMethodDescriptor (mY M_X6_thrown).desc).map (fun d => d.parameters.length) = some 0 := by decide +kernel
def f_X6_thrown (t0 mi : Nat) (x0 : Nat) : Mo Int32 :=
    bnd (gI x0 7 0) fun v1 =>
    rt v1
set_option maxRecDepth 20000 in
theorem I_X6_thrown {l : Launch} {g : GX} (hst : l.stackTraces = false) (x0 : Nat) : I l g M_X6_thrown cvI 0 [(0, .ref x0)] [] (f_X6_thrown (gt0 g) (gmi g) x0) := by
  unfold f_X6_thrown
  refine I_aload_n 0 1 dX6_thrown_0 rfl rfl rfl ?_
  refine I_getI 4 dX6_thrown_1 rfl cl7 (by decide) wfl_88 sameF_rfl (fun v1 => ?_)
  exact I_iret dX6_thrown_4 rfl
theorem C_X6_thrown {l : Launch} {g : GX} (hst : l.stackTraces = false) (x0 : Nat) : Cs l g M_X6_thrown cvI [.ref x0] (f_X6_thrown (gt0 g) (gmi g) x0) :=
  Cs_of_I [(0, .ref x0)] rfl (by decide) hst (Nat.le_of_ble_eq_true rfl) rfl (I_X6_thrown hst x0)
/-! LunchMarks$Trip.<init>(IIIIII)V -/
abbrev M_X4_init : MS := (yX4_init, cX4_init, 7, none, [], 1, 12)
theorem pd_X4_init : (parseMethodDescriptor (mY M_X4_init).desc).map (fun d => d.parameters.length) = some 6 := by decide +kernel
def f_X4_init (t0 mi : Nat) (x0 : Nat) (x1 : Int32) (x2 : Int32) (x3 : Int32) (x4 : Int32) (x5 : Int32) (x6 : Int32) : Mo Unit :=
    bnd (pV x0 5 0 (.int x1)) fun _ =>
    bnd (pV x0 5 1 (.int x2)) fun _ =>
    bnd (pV x0 5 2 (.int x3)) fun _ =>
    bnd (pV x0 5 3 (.int x4)) fun _ =>
    bnd (pV x0 5 4 (.int x5)) fun _ =>
    bnd (pV x0 5 5 (.int x6)) fun _ =>
    bnd (newK 0 (.inl fun _ => 0) (9 : Int32)) fun v40 =>
    bnd (pV x0 5 6 (.ref v40)) fun _ =>
    bnd (pV x0 5 7 (.int (0 : Int32))) fun _ =>
    bnd (pZ x0 5 8 (0 : Int32)) fun _ =>
    bnd (pV x0 5 9 (.int (-1 : Int32))) fun _ =>
    bnd (pV x0 5 10 (.int (-1 : Int32))) fun _ =>
    bnd (pV x0 5 11 (.int (-1 : Int32))) fun _ =>
    bnd (pZ x0 5 12 (0 : Int32)) fun _ =>
    rt ()
set_option maxRecDepth 20000 in
theorem I_X4_init {l : Launch} {g : GX} (hst : l.stackTraces = false) (x0 : Nat) (x1 : Int32) (x2 : Int32) (x3 : Int32) (x4 : Int32) (x5 : Int32) (x6 : Int32) : I l g M_X4_init cvU 0 [(0, .ref x0), (1, .int x1), (2, .int x2), (3, .int x3), (4, .int x4), (5, .int x5), (6, .int x6)] [] (f_X4_init (gt0 g) (gmi g) x0 x1 x2 x3 x4 x5 x6) := by
  unfold f_X4_init
  refine I_aload_n 0 1 dX4_init_0 rfl rfl rfl ?_
  refine I_objInit 4 dX4_init_1 rfl wml_211 wim_1 wcd_2 (by decide) (Nat.le_of_ble_eq_true rfl) ?_
  refine I_aload_n 0 5 dX4_init_4 rfl rfl rfl ?_
  refine I_iload_n 1 6 dX4_init_5 rfl rfl rfl ?_
  refine I_putF 9 dX4_init_6 rfl cl5 (by decide) wfl_212 sameF_rfl rfl rfl rfl rfl rfl ?_
  refine I_aload_n 0 10 dX4_init_9 rfl rfl rfl ?_
  refine I_iload_n 2 11 dX4_init_10 rfl rfl rfl ?_
  refine I_putF 14 dX4_init_11 rfl cl5 (by decide) wfl_213 sameF_rfl rfl rfl rfl rfl rfl ?_
  refine I_aload_n 0 15 dX4_init_14 rfl rfl rfl ?_
  refine I_iload_n 3 16 dX4_init_15 rfl rfl rfl ?_
  refine I_putF 19 dX4_init_16 rfl cl5 (by decide) wfl_214 sameF_rfl rfl rfl rfl rfl rfl ?_
  refine I_aload_n 0 20 dX4_init_19 rfl rfl rfl ?_
  refine I_iload 4 22 dX4_init_20 rfl rfl ?_
  refine I_putF 25 dX4_init_22 rfl cl5 (by decide) wfl_215 sameF_rfl rfl rfl rfl rfl rfl ?_
  refine I_aload_n 0 26 dX4_init_25 rfl rfl rfl ?_
  refine I_iload 5 28 dX4_init_26 rfl rfl ?_
  refine I_putF 31 dX4_init_28 rfl cl5 (by decide) wfl_216 sameF_rfl rfl rfl rfl rfl rfl ?_
  refine I_aload_n 0 32 dX4_init_31 rfl rfl rfl ?_
  refine I_iload 6 34 dX4_init_32 rfl rfl ?_
  refine I_putF 37 dX4_init_34 rfl cl5 (by decide) wfl_217 sameF_rfl rfl rfl rfl rfl rfl ?_
  refine I_aload_n 0 38 dX4_init_37 rfl rfl rfl ?_
  refine I_bipush (9 : Int32) 40 dX4_init_38 rfl (by decide) ?_
  refine I_newi 42 dX4_init_40 rfl wac_15 (fun v40 => ?_)
  refine I_putF 45 dX4_init_42 rfl cl5 (by decide) wfl_218 sameF_rfl rfl rfl rfl rfl rfl ?_
  refine I_aload_n 0 46 dX4_init_45 rfl rfl rfl ?_
  refine I_iconst (0 : Int32) 47 dX4_init_46 rfl (by decide) ?_
  refine I_put 50 dX4_init_47 rfl cl5 (by decide) wfl_219 sameF_rfl rfl rfl rfl ?_
  refine I_aload_n 0 51 dX4_init_50 rfl rfl rfl ?_
  refine I_iconst (0 : Int32) 52 dX4_init_51 rfl (by decide) ?_
  refine I_putZ 55 dX4_init_52 rfl cl5 (by decide) wfl_220 sameF_rfl rfl rfl ?_
  refine I_aload_n 0 56 dX4_init_55 rfl rfl rfl ?_
  refine I_iconst (-1 : Int32) 57 dX4_init_56 rfl (by decide) ?_
  refine I_put 60 dX4_init_57 rfl cl5 (by decide) wfl_221 sameF_rfl rfl rfl rfl ?_
  refine I_aload_n 0 61 dX4_init_60 rfl rfl rfl ?_
  refine I_iconst (-1 : Int32) 62 dX4_init_61 rfl (by decide) ?_
  refine I_put 65 dX4_init_62 rfl cl5 (by decide) wfl_222 sameF_rfl rfl rfl rfl ?_
  refine I_aload_n 0 66 dX4_init_65 rfl rfl rfl ?_
  refine I_iconst (-1 : Int32) 67 dX4_init_66 rfl (by decide) ?_
  refine I_put 70 dX4_init_67 rfl cl5 (by decide) wfl_223 sameF_rfl rfl rfl rfl ?_
  refine I_aload_n 0 71 dX4_init_70 rfl rfl rfl ?_
  refine I_iconst (0 : Int32) 72 dX4_init_71 rfl (by decide) ?_
  refine I_putZ 75 dX4_init_72 rfl cl5 (by decide) wfl_224 sameF_rfl rfl rfl ?_
  exact I_vret dX4_init_75 rfl
theorem C_X4_init {l : Launch} {g : GX} (hst : l.stackTraces = false) (x0 : Nat) (x1 : Int32) (x2 : Int32) (x3 : Int32) (x4 : Int32) (x5 : Int32) (x6 : Int32) : Cs l g M_X4_init cvU [.ref x0, .int x1, .int x2, .int x3, .int x4, .int x5, .int x6] (f_X4_init (gt0 g) (gmi g) x0 x1 x2 x3 x4 x5 x6) :=
  Cs_of_I [(0, .ref x0), (1, .int x1), (2, .int x2), (3, .int x3), (4, .int x4), (5, .int x5), (6, .int x6)] rfl (by decide) hst (Nat.le_of_ble_eq_true rfl) rfl (I_X4_init hst x0 x1 x2 x3 x4 x5 x6)
theorem noT_X4_init (t0 mi : Nat) (x0 : Nat) (x1 : Int32) (x2 : Int32) (x3 : Int32) (x4 : Int32) (x5 : Int32) (x6 : Int32) : noT (f_X4_init t0 mi x0 x1 x2 x3 x4 x5 x6) := by
  unfold f_X4_init
  repeat (first | exact noT_rt | exact noT_flr | (refine noT_bnd ?_ (fun _ => ?_)) | exact noT_pV | exact noT_pZ | exact noT_newO | exact noT_newK | exact noT_newM | exact noT_gA | exact noT_gI | exact noT_init)
/-! LunchMarks$Box.<init>(LLunchMarks$Trip;)V -/
abbrev M_X0_init : MS := (yX0_init, cX0_init, 2, none, [], 1, 12)
theorem pd_X0_init : (parseMethodDescriptor (mY M_X0_init).desc).map (fun d => d.parameters.length) = some 1 := by decide +kernel
def f_X0_init (t0 mi : Nat) (x0 : Nat) (x1 : Nat) : Mo Unit :=
    bnd (pV x0 1 0 (.ref x1)) fun _ =>
    bnd (pV x0 1 1 (.null)) fun _ =>
    rt ()
set_option maxRecDepth 20000 in
theorem I_X0_init {l : Launch} {g : GX} (hst : l.stackTraces = false) (x0 : Nat) (x1 : Nat) : I l g M_X0_init cvU 0 [(0, .ref x0), (1, .ref x1)] [] (f_X0_init (gt0 g) (gmi g) x0 x1) := by
  unfold f_X0_init
  refine I_aload_n 0 1 dX0_init_0 rfl rfl rfl ?_
  refine I_objInit 4 dX0_init_1 rfl wml_225 wim_1 wcd_2 (by decide) (Nat.le_of_ble_eq_true rfl) ?_
  refine I_aload_n 0 5 dX0_init_4 rfl rfl rfl ?_
  refine I_aload_n 1 6 dX0_init_5 rfl rfl rfl ?_
  refine I_putF 9 dX0_init_6 rfl cl1 (by decide) wfl_226 sameF_rfl rfl rfl rfl rfl rfl ?_
  refine I_aload_n 0 10 dX0_init_9 rfl rfl rfl ?_
  refine I_aconst_null 11 dX0_init_10 rfl ?_
  refine I_put 14 dX0_init_11 rfl cl1 (by decide) wfl_227 sameF_rfl rfl rfl rfl ?_
  exact I_vret dX0_init_14 rfl
theorem C_X0_init {l : Launch} {g : GX} (hst : l.stackTraces = false) (x0 : Nat) (x1 : Nat) : Cs l g M_X0_init cvU [.ref x0, .ref x1] (f_X0_init (gt0 g) (gmi g) x0 x1) :=
  Cs_of_I [(0, .ref x0), (1, .ref x1)] rfl (by decide) hst (Nat.le_of_ble_eq_true rfl) rfl (I_X0_init hst x0 x1)
theorem noT_X0_init (t0 mi : Nat) (x0 : Nat) (x1 : Nat) : noT (f_X0_init t0 mi x0 x1) := by
  unfold f_X0_init
  repeat (first | exact noT_rt | exact noT_flr | (refine noT_bnd ?_ (fun _ => ?_)) | exact noT_pV | exact noT_pZ | exact noT_newO | exact noT_newK | exact noT_newM | exact noT_gA | exact noT_gI | exact noT_init)
/-! LunchMarks.box(IIIIII)I -/
abbrev M_X5_box : MS := (yX5_box, cX5_box, 7, (some .int), [], 7, 171)
theorem pd_X5_box : (parseMethodDescriptor (mY M_X5_box).desc).map (fun d => d.parameters.length) = some 6 := by decide +kernel
def X5_box_b35 (t0 mi : Nat) : Mo Int32 :=
    rt (-1 : Int32)
set_option maxRecDepth 20000 in
theorem I_X5_box_b35 {l : Launch} {g : GX} (hst : l.stackTraces = false) : I l g M_X5_box cvI 35 [] [] (X5_box_b35 (gt0 g) (gmi g)) := by
  unfold X5_box_b35
  refine I_iconst (-1 : Int32) 36 dX5_box_35 rfl (by decide) ?_
  exact I_iret dX5_box_36 rfl
def X5_box_b56 (t0 mi : Nat) : Mo Int32 :=
    rt (-1 : Int32)
set_option maxRecDepth 20000 in
theorem I_X5_box_b56 {l : Launch} {g : GX} (hst : l.stackTraces = false) : I l g M_X5_box cvI 56 [] [] (X5_box_b56 (gt0 g) (gmi g)) := by
  unfold X5_box_b56
  refine I_iconst (-1 : Int32) 57 dX5_box_56 rfl (by decide) ?_
  exact I_iret dX5_box_57 rfl
def X5_box_b73 (t0 mi : Nat) : Mo Int32 :=
    rt (-1 : Int32)
set_option maxRecDepth 20000 in
theorem I_X5_box_b73 {l : Launch} {g : GX} (hst : l.stackTraces = false) : I l g M_X5_box cvI 73 [] [] (X5_box_b73 (gt0 g) (gmi g)) := by
  unfold X5_box_b73
  refine I_iconst (-1 : Int32) 74 dX5_box_73 rfl (by decide) ?_
  exact I_iret dX5_box_74 rfl
def f_X5_box (t0 mi : Nat) (x0 : Nat) (x1 : Int32) (x2 : Int32) (x3 : Int32) (x4 : Int32) (x5 : Int32) (x6 : Int32) : Mo Int32 :=
    bnd (gA' x0 6 1) fun v1 =>
    bnd (vc v1 0 (f_Jx4a65c_size_8abf5 t0 mi v1)) fun v4 =>
    (if (60 : Int32) ≤ v4 then
    X5_box_b35 t0 mi
    else
    bnd (gA' x0 6 0) fun v13 =>
    bnd (vc v13 3 (f_X2_hasStation t0 mi v13 x1)) fun v17 =>
    (if v17 = 0 then
    X5_box_b35 t0 mi
    else
    bnd (gA' x0 6 0) fun v24 =>
    bnd (vc v24 3 (f_X2_hasStation t0 mi v24 x4)) fun v29 =>
    (if v29 = 0 then
    X5_box_b35 t0 mi
    else
    bnd (f_X5_isWithin t0 mi x2 (120 : Int32)) fun v40 =>
    (if v40 = 0 then
    X5_box_b56 t0 mi
    else
    bnd (f_X5_isWithin t0 mi x5 (120 : Int32)) fun v50 =>
    (if v50 = 0 then
    X5_box_b56 t0 mi
    else
    bnd (f_X5_isMinute t0 mi x3) fun v59 =>
    (if v59 = 0 then
    X5_box_b73 t0 mi
    else
    bnd (f_X5_isMinute t0 mi x6) fun v67 =>
    (if v67 = 0 then
    X5_box_b73 t0 mi
    else
    bnd (gA' x0 6 1) fun v76 =>
    bnd (newO 1 2 [.null, .null]) fun v79 =>
    bnd (newO 5 13 [.int 0, .int 0, .int 0, .int 0, .int 0, .int 0, .null, .int 0, .int 0, .int 0, .int 0, .int 0, .int 0]) fun v83 =>
    bnd (f_X4_init t0 mi v83 x1 x2 x3 x4 x5 x6) fun _ =>
    bnd (f_X0_init t0 mi v79 v83) fun _ =>
    bnd (vc v76 0 (f_Jx4a65c_add_9ea2d t0 mi v76 v79)) fun v102 =>
    bnd (gA' x0 6 1) fun v107 =>
    bnd (vc v107 0 (f_Jx4a65c_size_8abf5 t0 mi v107)) fun v110 =>
    rt (v110 - (1 : Int32)))))))))
set_option maxRecDepth 20000 in
theorem I_X5_box {l : Launch} {g : GX} (hst : l.stackTraces = false) (x0 : Nat) (x1 : Int32) (x2 : Int32) (x3 : Int32) (x4 : Int32) (x5 : Int32) (x6 : Int32) : I l g M_X5_box cvI 0 [(0, .ref x0), (1, .int x1), (2, .int x2), (3, .int x3), (4, .int x4), (5, .int x5), (6, .int x6)] [] (f_X5_box (gt0 g) (gmi g) x0 x1 x2 x3 x4 x5 x6) := by
  unfold f_X5_box
  refine I_aload_n 0 1 dX5_box_0 rfl rfl rfl ?_
  refine I_getA 4 dX5_box_1 rfl cl6 (by decide) wfl_41 sameF_rfl (fun v1 => ?_)
  refine I_callVi (As := []) (rest := []) 7 (C_Jx4a65c_size_8abf5 hst v1) dX5_box_4 rfl cl0 rfl (by decide) (Nat.le_of_ble_eq_true rfl) wcd_131 win_20 wml_165 wim_133 wse_134 ⟨by decide, by decide, pd_Jx4a65c_size_8abf5⟩ (fun x hx => by cases hx) (fun v4 => ?_)
  refine I_bipush (60 : Int32) 9 dX5_box_7 rfl (by decide) ?_
  refine I_icmp_ge 35 12 dX5_box_9 rfl rfl (fun _ => ?_) (fun _ => ?_)
  · refine I_sub [] [] rfl ?_
    exact I_X5_box_b35 hst
  · refine I_aload_n 0 13 dX5_box_12 rfl rfl rfl ?_
    refine I_getA 16 dX5_box_13 rfl cl6 (by decide) wfl_38 sameF_rfl (fun v13 => ?_)
    refine I_iload_n 1 17 dX5_box_16 rfl rfl rfl ?_
    refine I_callVi (As := [.int x1]) (rest := []) 20 (C_X2_hasStation hst v13 x1) dX5_box_17 rfl cl3 rfl (by decide) (Nat.le_of_ble_eq_true rfl) wcd_179 win_34 wml_180 wim_181 wse_182 ⟨by decide, by decide, pd_X2_hasStation⟩ (fun x hx => by cases hx) (fun v17 => ?_)
    refine I_if_eq 35 23 dX5_box_20 rfl rfl (fun _ => ?_) (fun _ => ?_)
    · refine I_sub [] [] rfl ?_
      exact I_X5_box_b35 hst
    · refine I_aload_n 0 24 dX5_box_23 rfl rfl rfl ?_
      refine I_getA 27 dX5_box_24 rfl cl6 (by decide) wfl_38 sameF_rfl (fun v24 => ?_)
      refine I_iload 4 29 dX5_box_27 rfl rfl ?_
      refine I_callVi (As := [.int x4]) (rest := []) 32 (C_X2_hasStation hst v24 x4) dX5_box_29 rfl cl3 rfl (by decide) (Nat.le_of_ble_eq_true rfl) wcd_179 win_34 wml_180 wim_181 wse_182 ⟨by decide, by decide, pd_X2_hasStation⟩ (fun x hx => by cases hx) (fun v29 => ?_)
      refine I_if_ne 37 35 dX5_box_32 rfl rfl (fun _ => ?_) (fun _ => ?_)
      · refine I_sub [] [] rfl ?_
        exact I_X5_box_b35 hst
      · refine I_iload_n 2 38 dX5_box_37 rfl rfl rfl ?_
        refine I_bipush (120 : Int32) 40 dX5_box_38 rfl (by decide) ?_
        refine I_callSi (As := [.int x2, .int (120 : Int32)]) (rest := []) 43 (C_X5_isWithin hst x2 (120 : Int32)) dX5_box_40 rfl rfl (by decide) (Nat.le_of_ble_eq_true rfl) wcd_80 win_81 wml_82 wst_83 ⟨by decide, by decide, pd_X5_isWithin⟩ (fun x hx => by cases hx) (fun v40 => ?_)
        refine I_if_eq 56 46 dX5_box_43 rfl rfl (fun _ => ?_) (fun _ => ?_)
        · refine I_sub [] [] rfl ?_
          exact I_X5_box_b56 hst
        · refine I_iload 5 48 dX5_box_46 rfl rfl ?_
          refine I_bipush (120 : Int32) 50 dX5_box_48 rfl (by decide) ?_
          refine I_callSi (As := [.int x5, .int (120 : Int32)]) (rest := []) 53 (C_X5_isWithin hst x5 (120 : Int32)) dX5_box_50 rfl rfl (by decide) (Nat.le_of_ble_eq_true rfl) wcd_80 win_81 wml_82 wst_83 ⟨by decide, by decide, pd_X5_isWithin⟩ (fun x hx => by cases hx) (fun v50 => ?_)
          refine I_if_ne 58 56 dX5_box_53 rfl rfl (fun _ => ?_) (fun _ => ?_)
          · refine I_sub [] [] rfl ?_
            exact I_X5_box_b56 hst
          · refine I_iload_n 3 59 dX5_box_58 rfl rfl rfl ?_
            refine I_callSi (As := [.int x3]) (rest := []) 62 (C_X5_isMinute hst x3) dX5_box_59 rfl rfl (by decide) (Nat.le_of_ble_eq_true rfl) wcd_183 win_81 wml_184 wst_185 ⟨by decide, by decide, pd_X5_isMinute⟩ (fun x hx => by cases hx) (fun v59 => ?_)
            refine I_if_eq 73 65 dX5_box_62 rfl rfl (fun _ => ?_) (fun _ => ?_)
            · refine I_sub [] [] rfl ?_
              exact I_X5_box_b73 hst
            · refine I_iload 6 67 dX5_box_65 rfl rfl ?_
              refine I_callSi (As := [.int x6]) (rest := []) 70 (C_X5_isMinute hst x6) dX5_box_67 rfl rfl (by decide) (Nat.le_of_ble_eq_true rfl) wcd_183 win_81 wml_184 wst_185 ⟨by decide, by decide, pd_X5_isMinute⟩ (fun x hx => by cases hx) (fun v67 => ?_)
              refine I_if_ne 75 73 dX5_box_70 rfl rfl (fun _ => ?_) (fun _ => ?_)
              · refine I_sub [] [] rfl ?_
                exact I_X5_box_b73 hst
              · refine I_aload_n 0 76 dX5_box_75 rfl rfl rfl ?_
                refine I_getA 79 dX5_box_76 rfl cl6 (by decide) wfl_41 sameF_rfl (fun v76 => ?_)
                refine I_new 82 dX5_box_79 rfl cl1 wcl_228 wit_229 win_230 df1 (fun v79 => ?_)
                refine I_dup 83 dX5_box_82 rfl rfl ?_
                refine I_new 86 dX5_box_83 rfl cl5 wcl_231 wit_232 win_233 df5 (fun v83 => ?_)
                refine I_dup 87 dX5_box_86 rfl rfl ?_
                refine I_iload_n 1 88 dX5_box_87 rfl rfl rfl ?_
                refine I_iload_n 2 89 dX5_box_88 rfl rfl rfl ?_
                refine I_iload_n 3 90 dX5_box_89 rfl rfl rfl ?_
                refine I_iload 4 92 dX5_box_90 rfl rfl ?_
                refine I_iload 5 94 dX5_box_92 rfl rfl ?_
                refine I_iload 6 96 dX5_box_94 rfl rfl ?_
                refine I_init (As := [.int x1, .int x2, .int x3, .int x4, .int x5, .int x6]) (rest := [.ref v83, .ref v79, .ref v79, .ref v76]) 99 (C_X4_init hst v83 x1 x2 x3 x4 x5 x6) (noT_X4_init _ _ _ _ _ _ _ _ _) dX5_box_96 rfl rfl rfl (by decide) (Nat.le_of_ble_eq_true rfl) wcd_234 win_233 wml_235 wim_236 rfl ⟨by decide, by decide, pd_X4_init⟩ ?_
                refine I_init (As := [.ref v83]) (rest := [.ref v79, .ref v76]) 102 (C_X0_init hst v79 v83) (noT_X0_init _ _ _ _) dX5_box_99 rfl rfl rfl (by decide) (Nat.le_of_ble_eq_true rfl) wcd_237 win_230 wml_238 wim_239 rfl ⟨by decide, by decide, pd_X0_init⟩ ?_
                refine I_callVi (As := [.ref v79]) (rest := []) 105 (C_Jx4a65c_add_9ea2d hst v76 v79) dX5_box_102 rfl cl0 rfl (by decide) (Nat.le_of_ble_eq_true rfl) wcd_141 win_20 wml_240 wim_143 wse_144 ⟨by decide, by decide, pd_Jx4a65c_add_9ea2d⟩ (fun x hx => by cases hx) (fun v102 => ?_)
                refine I_pop 106 dX5_box_105 rfl rfl ?_
                refine I_aload_n 0 107 dX5_box_106 rfl rfl rfl ?_
                refine I_getA 110 dX5_box_107 rfl cl6 (by decide) wfl_41 sameF_rfl (fun v107 => ?_)
                refine I_callVi (As := []) (rest := []) 113 (C_Jx4a65c_size_8abf5 hst v107) dX5_box_110 rfl cl0 rfl (by decide) (Nat.le_of_ble_eq_true rfl) wcd_131 win_20 wml_165 wim_133 wse_134 ⟨by decide, by decide, pd_Jx4a65c_size_8abf5⟩ (fun x hx => by cases hx) (fun v110 => ?_)
                refine I_iconst (1 : Int32) 114 dX5_box_113 rfl (by decide) ?_
                refine I_isub 115 dX5_box_114 rfl ?_
                exact I_iret dX5_box_115 rfl
theorem C_X5_box {l : Launch} {g : GX} (hst : l.stackTraces = false) (x0 : Nat) (x1 : Int32) (x2 : Int32) (x3 : Int32) (x4 : Int32) (x5 : Int32) (x6 : Int32) : Cs l g M_X5_box cvI [.ref x0, .int x1, .int x2, .int x3, .int x4, .int x5, .int x6] (f_X5_box (gt0 g) (gmi g) x0 x1 x2 x3 x4 x5 x6) :=
  Cs_of_I [(0, .ref x0), (1, .int x1), (2, .int x2), (3, .int x3), (4, .int x4), (5, .int x5), (6, .int x6)] rfl (by decide) hst (Nat.le_of_ble_eq_true rfl) rfl (I_X5_box hst x0 x1 x2 x3 x4 x5 x6)
/-! LunchMarksModel.box(IIIIII)I -/
abbrev M_X6_box : MS := (yX6_box, cX6_box, 8, (some .int), [], 0, 0)
theorem pd_X6_box : (parseMethodDescriptor (mY M_X6_box).desc).map (fun d => d.parameters.length) = some 6 := by decide +kernel
def X6_box_b98 (t0 mi : Nat) : Mo Int32 :=
    rt (-1 : Int32)
set_option maxRecDepth 20000 in
theorem I_X6_box_b98 {l : Launch} {g : GX} (hst : l.stackTraces = false) : I l g M_X6_box cvI 98 [] [] (X6_box_b98 (gt0 g) (gmi g)) := by
  unfold X6_box_b98
  refine I_iconst (-1 : Int32) 99 dX6_box_98 rfl (by decide) ?_
  exact I_iret dX6_box_99 rfl
def X6_box_b58 (t0 mi : Nat) (x0 : Nat) (x1 : Int32) (x2 : Int32) (x3 : Int32) (x4 : Int32) (x5 : Int32) (x6 : Int32) (s0 : Int32) : Mo Int32 :=
    bnd (gI x0 7 4) fun v61 =>
    (if v61 = (60 : Int32) then
    X6_box_b98 t0 mi
    else
    (if s0 = 0 then
    X6_box_b98 t0 mi
    else
    (if x3 < 0 then
    X6_box_b98 t0 mi
    else
    (if (1439 : Int32) < x3 then
    X6_box_b98 t0 mi
    else
    (if x6 < 0 then
    X6_box_b98 t0 mi
    else
    (if x6 ≤ (1439 : Int32) then
    bnd (gA' x0 7 14) fun v101 =>
    bnd (gI x0 7 4) fun v105 =>
    bnd (stK 0 v101 v105 x1) fun _ =>
    bnd (gA' x0 7 15) fun v111 =>
    bnd (gI x0 7 4) fun v115 =>
    bnd (stK 0 v111 v115 x2) fun _ =>
    bnd (gA' x0 7 16) fun v121 =>
    bnd (gI x0 7 4) fun v125 =>
    bnd (stK 0 v121 v125 x3) fun _ =>
    bnd (gA' x0 7 17) fun v131 =>
    bnd (gI x0 7 4) fun v135 =>
    bnd (stK 0 v131 v135 x4) fun _ =>
    bnd (gA' x0 7 18) fun v142 =>
    bnd (gI x0 7 4) fun v146 =>
    bnd (stK 0 v142 v146 x5) fun _ =>
    bnd (gA' x0 7 19) fun v153 =>
    bnd (gI x0 7 4) fun v157 =>
    bnd (stK 0 v153 v157 x6) fun _ =>
    bnd (gA' x0 7 25) fun v164 =>
    bnd (gI x0 7 4) fun v169 =>
    bnd (stK 0 v164 ((2 : Int32) * v169) (-1 : Int32)) fun _ =>
    bnd (gA' x0 7 25) fun v176 =>
    bnd (gI x0 7 4) fun v181 =>
    bnd (stK 0 v176 (((2 : Int32) * v181) + (1 : Int32)) (-1 : Int32)) fun _ =>
    bnd (gI x0 7 4) fun v191 =>
    bnd (pV x0 7 4 (.int (v191 + (1 : Int32)))) fun _ =>
    bnd (gI x0 7 4) fun v200 =>
    rt (v200 - (1 : Int32))
    else
    X6_box_b98 t0 mi))))))
set_option maxRecDepth 20000 in
theorem I_X6_box_b58 {l : Launch} {g : GX} (hst : l.stackTraces = false) (x0 : Nat) (x1 : Int32) (x2 : Int32) (x3 : Int32) (x4 : Int32) (x5 : Int32) (x6 : Int32) (s0 : Int32) : I l g M_X6_box cvI 58 [(0, .ref x0), (1, .int x1), (2, .int x2), (3, .int x3), (4, .int x4), (5, .int x5), (6, .int x6)] [.int s0] (X6_box_b58 (gt0 g) (gmi g) x0 x1 x2 x3 x4 x5 x6 s0) := by
  unfold X6_box_b58
  refine I_istore 60 [(7, .int s0), (0, .ref x0), (1, .int x1), (2, .int x2), (3, .int x3), (4, .int x4), (5, .int x5), (6, .int x6)] dX6_box_58 rfl (by decide) rfl ?_
  refine I_aload_n 1 61 dX6_box_60 rfl rfl rfl ?_
  refine I_getI 64 dX6_box_61 rfl cl7 (by decide) wfl_241 sameF_rfl (fun v61 => ?_)
  refine I_bipush (60 : Int32) 66 dX6_box_64 rfl (by decide) ?_
  refine I_icmp_eq 98 69 dX6_box_66 rfl rfl (fun _ => ?_) (fun _ => ?_)
  · refine I_sub [] [] rfl ?_
    exact I_X6_box_b98 hst
  · refine I_iload 0 71 dX6_box_69 rfl rfl ?_
    refine I_if_eq 98 74 dX6_box_71 rfl rfl (fun _ => ?_) (fun _ => ?_)
    · refine I_sub [] [] rfl ?_
      exact I_X6_box_b98 hst
    · refine I_iload_n 4 75 dX6_box_74 rfl rfl rfl ?_
      refine I_if_lt 98 78 dX6_box_75 rfl rfl (fun _ => ?_) (fun _ => ?_)
      · refine I_sub [] [] rfl ?_
        exact I_X6_box_b98 hst
      · refine I_iload_n 4 79 dX6_box_78 rfl rfl rfl ?_
        refine I_sipush (1439 : Int32) 82 dX6_box_79 rfl (by decide) ?_
        refine I_icmp_gt 98 85 dX6_box_82 rfl rfl (fun _ => ?_) (fun _ => ?_)
        · refine I_sub [] [] rfl ?_
          exact I_X6_box_b98 hst
        · refine I_iload 7 87 dX6_box_85 rfl rfl ?_
          refine I_if_lt 98 90 dX6_box_87 rfl rfl (fun _ => ?_) (fun _ => ?_)
          · refine I_sub [] [] rfl ?_
            exact I_X6_box_b98 hst
          · refine I_iload 7 92 dX6_box_90 rfl rfl ?_
            refine I_sipush (1439 : Int32) 95 dX6_box_92 rfl (by decide) ?_
            refine I_icmp_le 100 98 dX6_box_95 rfl rfl (fun _ => ?_) (fun _ => ?_)
            · refine I_aload_n 1 101 dX6_box_100 rfl rfl rfl ?_
              refine I_getA 104 dX6_box_101 rfl cl7 (by decide) wfl_61 sameF_rfl (fun v101 => ?_)
              refine I_aload_n 1 105 dX6_box_104 rfl rfl rfl ?_
              refine I_getI 108 dX6_box_105 rfl cl7 (by decide) wfl_241 sameF_rfl (fun v105 => ?_)
              refine I_iload_n 2 109 dX6_box_108 rfl rfl rfl ?_
              refine I_iast 110 dX6_box_109 rfl ?_
              refine I_aload_n 1 111 dX6_box_110 rfl rfl rfl ?_
              refine I_getA 114 dX6_box_111 rfl cl7 (by decide) wfl_62 sameF_rfl (fun v111 => ?_)
              refine I_aload_n 1 115 dX6_box_114 rfl rfl rfl ?_
              refine I_getI 118 dX6_box_115 rfl cl7 (by decide) wfl_241 sameF_rfl (fun v115 => ?_)
              refine I_iload_n 3 119 dX6_box_118 rfl rfl rfl ?_
              refine I_iast 120 dX6_box_119 rfl ?_
              refine I_aload_n 1 121 dX6_box_120 rfl rfl rfl ?_
              refine I_getA 124 dX6_box_121 rfl cl7 (by decide) wfl_63 sameF_rfl (fun v121 => ?_)
              refine I_aload_n 1 125 dX6_box_124 rfl rfl rfl ?_
              refine I_getI 128 dX6_box_125 rfl cl7 (by decide) wfl_241 sameF_rfl (fun v125 => ?_)
              refine I_iload_n 4 129 dX6_box_128 rfl rfl rfl ?_
              refine I_iast 130 dX6_box_129 rfl ?_
              refine I_aload_n 1 131 dX6_box_130 rfl rfl rfl ?_
              refine I_getA 134 dX6_box_131 rfl cl7 (by decide) wfl_64 sameF_rfl (fun v131 => ?_)
              refine I_aload_n 1 135 dX6_box_134 rfl rfl rfl ?_
              refine I_getI 138 dX6_box_135 rfl cl7 (by decide) wfl_241 sameF_rfl (fun v135 => ?_)
              refine I_iload 5 140 dX6_box_138 rfl rfl ?_
              refine I_iast 141 dX6_box_140 rfl ?_
              refine I_aload_n 1 142 dX6_box_141 rfl rfl rfl ?_
              refine I_getA 145 dX6_box_142 rfl cl7 (by decide) wfl_65 sameF_rfl (fun v142 => ?_)
              refine I_aload_n 1 146 dX6_box_145 rfl rfl rfl ?_
              refine I_getI 149 dX6_box_146 rfl cl7 (by decide) wfl_241 sameF_rfl (fun v146 => ?_)
              refine I_iload 6 151 dX6_box_149 rfl rfl ?_
              refine I_iast 152 dX6_box_151 rfl ?_
              refine I_aload_n 1 153 dX6_box_152 rfl rfl rfl ?_
              refine I_getA 156 dX6_box_153 rfl cl7 (by decide) wfl_66 sameF_rfl (fun v153 => ?_)
              refine I_aload_n 1 157 dX6_box_156 rfl rfl rfl ?_
              refine I_getI 160 dX6_box_157 rfl cl7 (by decide) wfl_241 sameF_rfl (fun v157 => ?_)
              refine I_iload 7 162 dX6_box_160 rfl rfl ?_
              refine I_iast 163 dX6_box_162 rfl ?_
              refine I_aload_n 1 164 dX6_box_163 rfl rfl rfl ?_
              refine I_getA 167 dX6_box_164 rfl cl7 (by decide) wfl_72 sameF_rfl (fun v164 => ?_)
              refine I_iconst (2 : Int32) 168 dX6_box_167 rfl (by decide) ?_
              refine I_aload_n 1 169 dX6_box_168 rfl rfl rfl ?_
              refine I_getI 172 dX6_box_169 rfl cl7 (by decide) wfl_241 sameF_rfl (fun v169 => ?_)
              refine I_imul 173 dX6_box_172 rfl ?_
              refine I_iconst (-1 : Int32) 174 dX6_box_173 rfl (by decide) ?_
              refine I_iast 175 dX6_box_174 rfl ?_
              refine I_aload_n 1 176 dX6_box_175 rfl rfl rfl ?_
              refine I_getA 179 dX6_box_176 rfl cl7 (by decide) wfl_72 sameF_rfl (fun v176 => ?_)
              refine I_iconst (2 : Int32) 180 dX6_box_179 rfl (by decide) ?_
              refine I_aload_n 1 181 dX6_box_180 rfl rfl rfl ?_
              refine I_getI 184 dX6_box_181 rfl cl7 (by decide) wfl_241 sameF_rfl (fun v181 => ?_)
              refine I_imul 185 dX6_box_184 rfl ?_
              refine I_iconst (1 : Int32) 186 dX6_box_185 rfl (by decide) ?_
              refine I_iadd 187 dX6_box_186 rfl ?_
              refine I_iconst (-1 : Int32) 188 dX6_box_187 rfl (by decide) ?_
              refine I_iast 189 dX6_box_188 rfl ?_
              refine I_aload_n 1 190 dX6_box_189 rfl rfl rfl ?_
              refine I_dup 191 dX6_box_190 rfl rfl ?_
              refine I_getI 194 dX6_box_191 rfl cl7 (by decide) wfl_241 sameF_rfl (fun v191 => ?_)
              refine I_iconst (1 : Int32) 195 dX6_box_194 rfl (by decide) ?_
              refine I_iadd 196 dX6_box_195 rfl ?_
              refine I_put 199 dX6_box_196 rfl cl7 (by decide) wfl_241 sameF_rfl rfl rfl rfl ?_
              refine I_aload_n 1 200 dX6_box_199 rfl rfl rfl ?_
              refine I_getI 203 dX6_box_200 rfl cl7 (by decide) wfl_241 sameF_rfl (fun v200 => ?_)
              refine I_iconst (1 : Int32) 204 dX6_box_203 rfl (by decide) ?_
              refine I_isub 205 dX6_box_204 rfl ?_
              exact I_iret dX6_box_205 rfl
            · refine I_sub [] [] rfl ?_
              exact I_X6_box_b98 hst
def X6_box_b57 (t0 mi : Nat) (x0 : Nat) (x1 : Int32) (x2 : Int32) (x3 : Int32) (x4 : Int32) (x5 : Int32) (x6 : Int32) : Mo Int32 :=
    X6_box_b58 t0 mi x0 x1 x2 x3 x4 x5 x6 (0 : Int32)
set_option maxRecDepth 20000 in
theorem I_X6_box_b57 {l : Launch} {g : GX} (hst : l.stackTraces = false) (x0 : Nat) (x1 : Int32) (x2 : Int32) (x3 : Int32) (x4 : Int32) (x5 : Int32) (x6 : Int32) : I l g M_X6_box cvI 57 [(0, .ref x0), (1, .int x1), (2, .int x2), (3, .int x3), (4, .int x4), (5, .int x5), (6, .int x6)] [] (X6_box_b57 (gt0 g) (gmi g) x0 x1 x2 x3 x4 x5 x6) := by
  unfold X6_box_b57
  refine I_iconst (0 : Int32) 58 dX6_box_57 rfl (by decide) ?_
  refine I_sub [(0, .ref x0), (1, .int x1), (2, .int x2), (3, .int x3), (4, .int x4), (5, .int x5), (6, .int x6)] [0, 1, 2, 3, 4, 5, 6] rfl ?_
  exact I_X6_box_b58 hst x0 x1 x2 x3 x4 x5 x6 (0 : Int32)
def f_X6_box (t0 mi : Nat) (x0 : Nat) (x1 : Int32) (x2 : Int32) (x3 : Int32) (x4 : Int32) (x5 : Int32) (x6 : Int32) : Mo Int32 :=
    bnd (pV x0 7 0 (.int (0 : Int32))) fun _ =>
    (if x1 < 0 then
    X6_box_b57 t0 mi x0 x1 x2 x3 x4 x5 x6
    else
    bnd (gI x0 7 2) fun v11 =>
    (if v11 ≤ x1 then
    X6_box_b57 t0 mi x0 x1 x2 x3 x4 x5 x6
    else
    (if x4 < 0 then
    X6_box_b57 t0 mi x0 x1 x2 x3 x4 x5 x6
    else
    bnd (gI x0 7 2) fun v25 =>
    (if v25 ≤ x4 then
    X6_box_b57 t0 mi x0 x1 x2 x3 x4 x5 x6
    else
    (if x2 < 0 then
    X6_box_b57 t0 mi x0 x1 x2 x3 x4 x5 x6
    else
    (if (120 : Int32) < x2 then
    X6_box_b57 t0 mi x0 x1 x2 x3 x4 x5 x6
    else
    (if x5 < 0 then
    X6_box_b57 t0 mi x0 x1 x2 x3 x4 x5 x6
    else
    (if (120 : Int32) < x5 then
    X6_box_b57 t0 mi x0 x1 x2 x3 x4 x5 x6
    else
    X6_box_b58 t0 mi x0 x1 x2 x3 x4 x5 x6 (1 : Int32)))))))))
set_option maxRecDepth 20000 in
theorem I_X6_box {l : Launch} {g : GX} (hst : l.stackTraces = false) (x0 : Nat) (x1 : Int32) (x2 : Int32) (x3 : Int32) (x4 : Int32) (x5 : Int32) (x6 : Int32) : I l g M_X6_box cvI 0 [(0, .ref x0), (1, .int x1), (2, .int x2), (3, .int x3), (4, .int x4), (5, .int x5), (6, .int x6)] [] (f_X6_box (gt0 g) (gmi g) x0 x1 x2 x3 x4 x5 x6) := by
  unfold f_X6_box
  refine I_aload_n 0 1 dX6_box_0 rfl rfl rfl ?_
  refine I_iconst (0 : Int32) 2 dX6_box_1 rfl (by decide) ?_
  refine I_put 5 dX6_box_2 rfl cl7 (by decide) wfl_88 sameF_rfl rfl rfl rfl ?_
  refine I_iload_n 1 6 dX6_box_5 rfl rfl rfl ?_
  refine I_if_lt 57 9 dX6_box_6 rfl rfl (fun _ => ?_) (fun _ => ?_)
  · refine I_sub [(0, .ref x0), (1, .int x1), (2, .int x2), (3, .int x3), (4, .int x4), (5, .int x5), (6, .int x6)] [0, 1, 2, 3, 4, 5, 6] rfl ?_
    exact I_X6_box_b57 hst x0 x1 x2 x3 x4 x5 x6
  · refine I_iload_n 1 10 dX6_box_9 rfl rfl rfl ?_
    refine I_aload_n 0 11 dX6_box_10 rfl rfl rfl ?_
    refine I_getI 14 dX6_box_11 rfl cl7 (by decide) wfl_89 sameF_rfl (fun v11 => ?_)
    refine I_icmp_ge 57 17 dX6_box_14 rfl rfl (fun _ => ?_) (fun _ => ?_)
    · refine I_sub [(0, .ref x0), (1, .int x1), (2, .int x2), (3, .int x3), (4, .int x4), (5, .int x5), (6, .int x6)] [0, 1, 2, 3, 4, 5, 6] rfl ?_
      exact I_X6_box_b57 hst x0 x1 x2 x3 x4 x5 x6
    · refine I_iload 4 19 dX6_box_17 rfl rfl ?_
      refine I_if_lt 57 22 dX6_box_19 rfl rfl (fun _ => ?_) (fun _ => ?_)
      · refine I_sub [(0, .ref x0), (1, .int x1), (2, .int x2), (3, .int x3), (4, .int x4), (5, .int x5), (6, .int x6)] [0, 1, 2, 3, 4, 5, 6] rfl ?_
        exact I_X6_box_b57 hst x0 x1 x2 x3 x4 x5 x6
      · refine I_iload 4 24 dX6_box_22 rfl rfl ?_
        refine I_aload_n 0 25 dX6_box_24 rfl rfl rfl ?_
        refine I_getI 28 dX6_box_25 rfl cl7 (by decide) wfl_89 sameF_rfl (fun v25 => ?_)
        refine I_icmp_ge 57 31 dX6_box_28 rfl rfl (fun _ => ?_) (fun _ => ?_)
        · refine I_sub [(0, .ref x0), (1, .int x1), (2, .int x2), (3, .int x3), (4, .int x4), (5, .int x5), (6, .int x6)] [0, 1, 2, 3, 4, 5, 6] rfl ?_
          exact I_X6_box_b57 hst x0 x1 x2 x3 x4 x5 x6
        · refine I_iload_n 2 32 dX6_box_31 rfl rfl rfl ?_
          refine I_if_lt 57 35 dX6_box_32 rfl rfl (fun _ => ?_) (fun _ => ?_)
          · refine I_sub [(0, .ref x0), (1, .int x1), (2, .int x2), (3, .int x3), (4, .int x4), (5, .int x5), (6, .int x6)] [0, 1, 2, 3, 4, 5, 6] rfl ?_
            exact I_X6_box_b57 hst x0 x1 x2 x3 x4 x5 x6
          · refine I_iload_n 2 36 dX6_box_35 rfl rfl rfl ?_
            refine I_bipush (120 : Int32) 38 dX6_box_36 rfl (by decide) ?_
            refine I_icmp_gt 57 41 dX6_box_38 rfl rfl (fun _ => ?_) (fun _ => ?_)
            · refine I_sub [(0, .ref x0), (1, .int x1), (2, .int x2), (3, .int x3), (4, .int x4), (5, .int x5), (6, .int x6)] [0, 1, 2, 3, 4, 5, 6] rfl ?_
              exact I_X6_box_b57 hst x0 x1 x2 x3 x4 x5 x6
            · refine I_iload 5 43 dX6_box_41 rfl rfl ?_
              refine I_if_lt 57 46 dX6_box_43 rfl rfl (fun _ => ?_) (fun _ => ?_)
              · refine I_sub [(0, .ref x0), (1, .int x1), (2, .int x2), (3, .int x3), (4, .int x4), (5, .int x5), (6, .int x6)] [0, 1, 2, 3, 4, 5, 6] rfl ?_
                exact I_X6_box_b57 hst x0 x1 x2 x3 x4 x5 x6
              · refine I_iload 5 48 dX6_box_46 rfl rfl ?_
                refine I_bipush (120 : Int32) 50 dX6_box_48 rfl (by decide) ?_
                refine I_icmp_gt 57 53 dX6_box_50 rfl rfl (fun _ => ?_) (fun _ => ?_)
                · refine I_sub [(0, .ref x0), (1, .int x1), (2, .int x2), (3, .int x3), (4, .int x4), (5, .int x5), (6, .int x6)] [0, 1, 2, 3, 4, 5, 6] rfl ?_
                  exact I_X6_box_b57 hst x0 x1 x2 x3 x4 x5 x6
                · refine I_iconst (1 : Int32) 54 dX6_box_53 rfl (by decide) ?_
                  refine I_goto 58 dX6_box_54 rfl ?_
                  refine I_sub [(0, .ref x0), (1, .int x1), (2, .int x2), (3, .int x3), (4, .int x4), (5, .int x5), (6, .int x6)] [0, 1, 2, 3, 4, 5, 6] rfl ?_
                  exact I_X6_box_b58 hst x0 x1 x2 x3 x4 x5 x6 (1 : Int32)
theorem C_X6_box {l : Launch} {g : GX} (hst : l.stackTraces = false) (x0 : Nat) (x1 : Int32) (x2 : Int32) (x3 : Int32) (x4 : Int32) (x5 : Int32) (x6 : Int32) : Cs l g M_X6_box cvI [.ref x0, .int x1, .int x2, .int x3, .int x4, .int x5, .int x6] (f_X6_box (gt0 g) (gmi g) x0 x1 x2 x3 x4 x5 x6) :=
  Cs_of_I [(0, .ref x0), (1, .int x1), (2, .int x2), (3, .int x3), (4, .int x4), (5, .int x5), (6, .int x6)] rfl (by decide) hst (Nat.le_of_ble_eq_true rfl) rfl (I_X6_box hst x0 x1 x2 x3 x4 x5 x6)
/-! LunchMarks$Box.current()LLunchMarks$Trip; -/
abbrev M_X0_current : MS := (yX0_current, cX0_current, 1, (some (.object "LunchMarks$Trip")), [], 0, 0)
theorem pd_X0_current : (parseMethodDescriptor (mY M_X0_current).desc).map (fun d => d.parameters.length) = some 0 := by decide +kernel
def X0_current_b18 (t0 mi : Nat) (s0 : Nat) : Mo Nat :=
    rt s0
set_option maxRecDepth 20000 in
theorem I_X0_current_b18 {l : Launch} {g : GX} (hst : l.stackTraces = false) (s0 : Nat) : I l g M_X0_current cvA 18 [] [.ref s0] (X0_current_b18 (gt0 g) (gmi g) s0) := by
  unfold X0_current_b18
  exact I_aret dX0_current_18 rfl (Or.inl ⟨_, rfl⟩)
def f_X0_current (t0 mi : Nat) (x0 : Nat) : Mo Nat :=
    bnd (gO x0 1 1) fun v1 =>
    (if v1 = none then
    bnd (gA' x0 1 0) fun v8 =>
    X0_current_b18 t0 mi v8
    else
    bnd (gA' x0 1 1) fun v15 =>
    X0_current_b18 t0 mi v15)
set_option maxRecDepth 20000 in
theorem I_X0_current {l : Launch} {g : GX} (hst : l.stackTraces = false) (x0 : Nat) : I l g M_X0_current cvA 0 [(0, .ref x0)] [] (f_X0_current (gt0 g) (gmi g) x0) := by
  unfold f_X0_current
  refine I_aload_n 0 1 dX0_current_0 rfl rfl rfl ?_
  refine I_getO 4 dX0_current_1 rfl cl1 (by decide) wfl_227 sameF_rfl (fun v1 => ?_)
  refine I_ifnonnull 14 7 dX0_current_4 rfl rfl (fun _ => ?_) (fun _ => ?_)
  · refine I_aload_n 0 8 dX0_current_7 rfl rfl rfl ?_
    refine I_getA 11 dX0_current_8 rfl cl1 (by decide) wfl_226 sameF_rfl (fun v8 => ?_)
    refine I_goto 18 dX0_current_11 rfl ?_
    refine I_sub [] [] rfl ?_
    exact I_X0_current_b18 hst v8
  · refine I_aload_n 0 15 dX0_current_14 rfl rfl rfl ?_
    refine I_getA 18 dX0_current_15 rfl cl1 (by decide) wfl_227 sameF_rfl (fun v15 => ?_)
    refine I_sub [] [] rfl ?_
    exact I_X0_current_b18 hst v15
theorem C_X0_current {l : Launch} {g : GX} (hst : l.stackTraces = false) (x0 : Nat) : Cs l g M_X0_current cvA [.ref x0] (f_X0_current (gt0 g) (gmi g) x0) :=
  Cs_of_I [(0, .ref x0)] rfl (by decide) hst (Nat.le_of_ble_eq_true rfl) rfl (I_X0_current hst x0)
