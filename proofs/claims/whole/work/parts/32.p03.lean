def p_L_of (x1 : Int32) (x2 : Int32) : PM Int32 :=
    pctc (pbnd (pchk 6 0) fun _ => p_X5_of x1 x2) (fun v5 =>
    pbnd (pstO (0 : Int32) v5.toInt64) fun _ =>
    prt (0 : Int32)) (fun E =>
    (if E = "java/util/NoSuchElementException" then
    prt (1 : Int32)
    else
    pflr))
set_option maxRecDepth 20000 in
theorem Lf_f_L_of {y : LY} {t0 mi : Nat} (x1 : Int32) (x2 : Int32) : Lft y Eq (f_L_of t0 mi (adO y 6 0) x1 x2 (yB y + 45)) (p_L_of x1 x2) := by
  unfold f_L_of p_L_of
  refine Lft_ctc (Lft_vc (Lf_f_X5_of x1 x2)) (fun v5 z9 e9 => ?_) (fun E => ?_)
  · subst e9
    refine Lft_bnd (Lft_stO) (fun _ _ _ => ?_)
    exact Lft_rt rfl
  · refine Lft_if (fun _ => ?_) (fun _ => ?_)
    · exact Lft_rt rfl
    · exact Lft_flr
def p_X6_isGone_b30 (s0 : Int32) : PM Int32 :=
    prtZ s0
set_option maxRecDepth 20000 in
theorem Lf_X6_isGone_b30 {y : LY} {t0 mi : Nat} (s0 : Int32) : Lft y Eq (X6_isGone_b30 t0 mi s0) (p_X6_isGone_b30 s0) := by
  unfold X6_isGone_b30 p_X6_isGone_b30
  exact Lft_rtZ
def p_X6_isGone_b29 : PM Int32 :=
    p_X6_isGone_b30 (0 : Int32)
set_option maxRecDepth 20000 in
theorem Lf_X6_isGone_b29 {y : LY} {t0 mi : Nat} : Lft y Eq (X6_isGone_b29 t0 mi) (p_X6_isGone_b29) := by
  unfold X6_isGone_b29 p_X6_isGone_b29
  exact Lf_X6_isGone_b30 (0 : Int32)
def p_X6_isGone (x1 : Int32) : PM Int32 :=
    pbnd (pbnd (pchk 7 0) fun _ => p_X6_readyOf x1) fun v2 =>
    pbnd (pgI 7 0 1) fun v6 =>
    (if v6 < v2 then
    p_X6_isGone_b29
    else
    pbnd (pchk 7 0) fun _ =>
    pbnd (pbnd (pchk 7 0) fun _ => p_X6_wayOf x1) fun v18 =>
    pbnd (pld 9 22 v18) fun v21 =>
    (if v21 = 0 then
    p_X6_isGone_b29
    else
    p_X6_isGone_b30 (1 : Int32)))
set_option maxRecDepth 20000 in
theorem Lf_f_X6_isGone {y : LY} {t0 mi : Nat} (x1 : Int32) : Lft y Eq (f_X6_isGone t0 mi (adO y 7 0) x1) (p_X6_isGone x1) := by
  unfold f_X6_isGone p_X6_isGone
  refine Lft_bnd (Lft_vc (Lf_f_X6_readyOf x1)) (fun v2 z9 e9 => ?_)
  subst e9
  refine Lft_bnd (Lft_gI (fun F => rfl)) (fun v6 z9 e9 => ?_)
  subst e9
  refine Lft_if (fun _ => ?_) (fun _ => ?_)
  · exact Lf_X6_isGone_b29
  · refine Lft_bnd (Lft_gA (a := (adA y 9 22)) (fun F => rfl)) (fun v13 _ e9 => ?_)
    subst e9
    refine Lft_bnd (Lft_vc (Lf_f_X6_wayOf x1)) (fun v18 z9 e9 => ?_)
    subst e9
    refine Lft_bnd (Lft_ld rfl) (fun v21 z9 e9 => ?_)
    subst e9
    refine Lft_if (fun _ => ?_) (fun _ => ?_)
    · exact Lf_X6_isGone_b29
    · exact Lf_X6_isGone_b30 (1 : Int32)
def p_X6_isLate_b34 (s0 : Int32) : PM Int32 :=
    prtZ s0
set_option maxRecDepth 20000 in
theorem Lf_X6_isLate_b34 {y : LY} {t0 mi : Nat} (s0 : Int32) : Lft y Eq (X6_isLate_b34 t0 mi s0) (p_X6_isLate_b34 s0) := by
  unfold X6_isLate_b34 p_X6_isLate_b34
  exact Lft_rtZ
def p_X6_isLate_b26 (s0 : Int32) (s1 : Int32) : PM Int32 :=
    (if s1 ≤ s0 then
    p_X6_isLate_b34 (0 : Int32)
    else
    p_X6_isLate_b34 (1 : Int32))
set_option maxRecDepth 20000 in
theorem Lf_X6_isLate_b26 {y : LY} {t0 mi : Nat} (s0 : Int32) (s1 : Int32) : Lft y Eq (X6_isLate_b26 t0 mi s0 s1) (p_X6_isLate_b26 s0 s1) := by
  unfold X6_isLate_b26 p_X6_isLate_b26
  refine Lft_if (fun _ => ?_) (fun _ => ?_)
  · exact Lf_X6_isLate_b34 (0 : Int32)
  · exact Lf_X6_isLate_b34 (1 : Int32)
def p_X6_isLate (x1 : Int32) : PM Int32 :=
    pbnd (pbnd (pchk 7 0) fun _ => p_X6_arrives x1) fun v2 =>
    pbnd (pchk 7 0) fun _ =>
    pbnd (pld 9 21 x1) fun v10 =>
    (if v10 = 0 then
    pbnd (pchk 7 0) fun _ =>
    pbnd (pld 9 19 x1) fun v25 =>
    p_X6_isLate_b26 v25 v2
    else
    p_X6_isLate_b26 (1439 : Int32) v2)
set_option maxRecDepth 20000 in
theorem Lf_f_X6_isLate {y : LY} {t0 mi : Nat} (x1 : Int32) : Lft y Eq (f_X6_isLate t0 mi (adO y 7 0) x1) (p_X6_isLate x1) := by
  unfold f_X6_isLate p_X6_isLate
  refine Lft_bnd (Lft_vc (Lf_f_X6_arrives x1)) (fun v2 z9 e9 => ?_)
  subst e9
  refine Lft_bnd (Lft_gA (a := (adA y 9 21)) (fun F => rfl)) (fun v6 _ e9 => ?_)
  subst e9
  refine Lft_bnd (Lft_ld rfl) (fun v10 z9 e9 => ?_)
  subst e9
  refine Lft_if (fun _ => ?_) (fun _ => ?_)
  · refine Lft_bnd (Lft_gA (a := (adA y 9 19)) (fun F => rfl)) (fun v21 _ e9 => ?_)
    subst e9
    refine Lft_bnd (Lft_ld rfl) (fun v25 z9 e9 => ?_)
    subst e9
    exact Lf_X6_isLate_b26 v25 v2
  · exact Lf_X6_isLate_b26 (1439 : Int32) v2
def p_X6_of_b94 (s0 : Int32) : PM Int32 :=
    prt s0
set_option maxRecDepth 20000 in
theorem Lf_X6_of_b94 {y : LY} {t0 mi : Nat} (s0 : Int32) : Lft y Eq (X6_of_b94 t0 mi s0) (p_X6_of_b94 s0) := by
  unfold X6_of_b94 p_X6_of_b94
  exact Lft_rt rfl
def p_X6_of_b108 (s0 : Int32) : PM Int32 :=
    prt s0
set_option maxRecDepth 20000 in
theorem Lf_X6_of_b108 {y : LY} {t0 mi : Nat} (s0 : Int32) : Lft y Eq (X6_of_b108 t0 mi s0) (p_X6_of_b108 s0) := by
  unfold X6_of_b108 p_X6_of_b108
  exact Lft_rt rfl
def p_X6_of_b136 (s0 : Int32) : PM Int32 :=
    prt s0
set_option maxRecDepth 20000 in
theorem Lf_X6_of_b136 {y : LY} {t0 mi : Nat} (s0 : Int32) : Lft y Eq (X6_of_b136 t0 mi s0) (p_X6_of_b136 s0) := by
  unfold X6_of_b136 p_X6_of_b136
  exact Lft_rt rfl
def p_X6_of_b151 (s0 : Int32) : PM Int32 :=
    prt s0
set_option maxRecDepth 20000 in
theorem Lf_X6_of_b151 {y : LY} {t0 mi : Nat} (s0 : Int32) : Lft y Eq (X6_of_b151 t0 mi s0) (p_X6_of_b151 s0) := by
  unfold X6_of_b151 p_X6_of_b151
  exact Lft_rt rfl
def p_X6_of (x1 : Int32) (x2 : Int32) : PM Int32 :=
    pbnd (ppI 7 0 0 (0 : Int32)) fun _ =>
    pbnd (pbnd (pchk 7 0) fun _ => p_X6_isBox x1) fun v7 =>
    (if v7 = 0 then
    pbnd (pbnd (pchk 7 0) fun _ => p_X6_fail) fun v14 =>
    prt v14
    else
    pbnd (pbnd (pchk 7 0) fun _ => p_X6_wayOf x1) fun v20 =>
    (if x2 = 0 then
    pbnd (pchk 7 0) fun _ =>
    pbnd (pld 9 24 v20) fun v73 =>
    prt v73
    else
    (if x2 = 1 then
    pbnd (pbnd (pchk 7 0) fun _ => p_X6_arrives x1) fun v77 =>
    prt v77
    else
    (if x2 = 2 then
    pbnd (pbnd (pchk 7 0) fun _ => p_X6_isGone x1) fun v83 =>
    (if v83 = 0 then
    p_X6_of_b94 (0 : Int32)
    else
    p_X6_of_b94 (1 : Int32))
    else
    (if x2 = 3 then
    pbnd (pbnd (pchk 7 0) fun _ => p_X6_isLate x1) fun v97 =>
    (if v97 = 0 then
    p_X6_of_b108 (0 : Int32)
    else
    p_X6_of_b108 (1 : Int32))
    else
    (if x2 = 4 then
    pbnd (pchk 7 0) fun _ =>
    pbnd (pld 9 25 v20) fun v114 =>
    prt v114
    else
    (if x2 = 5 then
    pbnd (pchk 7 0) fun _ =>
    pbnd (pld 9 25 v20) fun v121 =>
    (if v121 = (-1 : Int32) then
    p_X6_of_b136 (-1 : Int32)
    else
    pbnd (pchk 7 0) fun _ =>
    pbnd (pld 9 26 v20) fun v135 =>
    p_X6_of_b136 v135)
    else
    (if x2 = 6 then
    pbnd (pchk 7 0) fun _ =>
    pbnd (pld 9 21 x1) fun v142 =>
    (if v142 = 0 then
    p_X6_of_b151 (0 : Int32)
    else
    p_X6_of_b151 (1 : Int32))
    else
    pbnd (pbnd (pchk 7 0) fun _ => p_X6_fail) fun v153 =>
    prt v153))))))))
set_option maxRecDepth 20000 in
theorem Lf_f_X6_of {y : LY} {t0 mi : Nat} (x1 : Int32) (x2 : Int32) : Lft y Eq (f_X6_of t0 mi (adO y 7 0) x1 x2) (p_X6_of x1 x2) := by
  unfold f_X6_of p_X6_of
  refine Lft_bnd (Lft_pI ⟨by decide, by decide⟩ (fun F => ⟨by simp [fds, u3], by simp [fds]⟩)) (fun _ _ _ => ?_)
  refine Lft_bnd (Lft_vc (Lf_f_X6_isBox x1)) (fun v7 z9 e9 => ?_)
  subst e9
  refine Lft_if (fun _ => ?_) (fun _ => ?_)
  · refine Lft_bnd (Lft_vc (Lf_f_X6_fail)) (fun v14 z9 e9 => ?_)
    subst e9
    exact Lft_rt rfl
  · refine Lft_bnd (Lft_vc (Lf_f_X6_wayOf x1)) (fun v20 z9 e9 => ?_)
    subst e9
    refine Lft_if (fun _ => ?_) (fun _ => ?_)
    · refine Lft_bnd (Lft_gA (a := (adA y 9 24)) (fun F => rfl)) (fun v69 _ e9 => ?_)
      subst e9
      refine Lft_bnd (Lft_ld rfl) (fun v73 z9 e9 => ?_)
      subst e9
      exact Lft_rt rfl
    · refine Lft_if (fun _ => ?_) (fun _ => ?_)
      · refine Lft_bnd (Lft_vc (Lf_f_X6_arrives x1)) (fun v77 z9 e9 => ?_)
        subst e9
        exact Lft_rt rfl
      · refine Lft_if (fun _ => ?_) (fun _ => ?_)
        · refine Lft_bnd (Lft_vc (Lf_f_X6_isGone x1)) (fun v83 z9 e9 => ?_)
          subst e9
          refine Lft_if (fun _ => ?_) (fun _ => ?_)
          · exact Lf_X6_of_b94 (0 : Int32)
          · exact Lf_X6_of_b94 (1 : Int32)
        · refine Lft_if (fun _ => ?_) (fun _ => ?_)
          · refine Lft_bnd (Lft_vc (Lf_f_X6_isLate x1)) (fun v97 z9 e9 => ?_)
            subst e9
            refine Lft_if (fun _ => ?_) (fun _ => ?_)
            · exact Lf_X6_of_b108 (0 : Int32)
            · exact Lf_X6_of_b108 (1 : Int32)
          · refine Lft_if (fun _ => ?_) (fun _ => ?_)
            · refine Lft_bnd (Lft_gA (a := (adA y 9 25)) (fun F => rfl)) (fun v110 _ e9 => ?_)
              subst e9
              refine Lft_bnd (Lft_ld rfl) (fun v114 z9 e9 => ?_)
              subst e9
              exact Lft_rt rfl
            · refine Lft_if (fun _ => ?_) (fun _ => ?_)
              · refine Lft_bnd (Lft_gA (a := (adA y 9 25)) (fun F => rfl)) (fun v117 _ e9 => ?_)
                subst e9
                refine Lft_bnd (Lft_ld rfl) (fun v121 z9 e9 => ?_)
                subst e9
                refine Lft_if (fun _ => ?_) (fun _ => ?_)
                · exact Lf_X6_of_b136 (-1 : Int32)
                · refine Lft_bnd (Lft_gA (a := (adA y 9 26)) (fun F => rfl)) (fun v131 _ e9 => ?_)
                  subst e9
                  refine Lft_bnd (Lft_ld rfl) (fun v135 z9 e9 => ?_)
                  subst e9
                  exact Lf_X6_of_b136 v135
              · refine Lft_if (fun _ => ?_) (fun _ => ?_)
                · refine Lft_bnd (Lft_gA (a := (adA y 9 21)) (fun F => rfl)) (fun v138 _ e9 => ?_)
                  subst e9
                  refine Lft_bnd (Lft_ld rfl) (fun v142 z9 e9 => ?_)
                  subst e9
                  refine Lft_if (fun _ => ?_) (fun _ => ?_)
                  · exact Lf_X6_of_b151 (0 : Int32)
                  · exact Lf_X6_of_b151 (1 : Int32)
                · refine Lft_bnd (Lft_vc (Lf_f_X6_fail)) (fun v153 z9 e9 => ?_)
                  subst e9
                  exact Lft_rt rfl
def p_X0_ledLegs_b32 (s0 : Int32) : PM Int32 :=
    prt s0
set_option maxRecDepth 20000 in
theorem Lf_X0_ledLegs_b32 {y : LY} {t0 mi : Nat} (s0 : Int32) : Lft y Eq (X0_ledLegs_b32 t0 mi s0) (p_X0_ledLegs_b32 s0) := by
  unfold X0_ledLegs_b32 p_X0_ledLegs_b32
  exact Lft_rt rfl
def p_X0_ledLegs (x0 : Nat) : PM Int32 :=
    pbnd (pgO x0) fun v1 =>
    (if v1 = none then
    pbnd (pchk 1 x0) fun _ =>
    pbnd (pgI 5 (2 * x0) 7) fun v11 =>
    p_X0_ledLegs_b32 v11
    else
    pbnd (pchk 1 x0) fun _ =>
    pbnd (pgI 5 (2 * x0) 7) fun v21 =>
    pbnd (pgB x0) fun _ =>
    pbnd (pgI 5 (2 * x0 + 1) 7) fun v28 =>
    p_X0_ledLegs_b32 (v21 + v28))
set_option maxRecDepth 20000 in
theorem Lf_f_X0_ledLegs {y : LY} {t0 mi : Nat} (x0 : Nat) : Lft y Eq (f_X0_ledLegs t0 mi (adO y 1 x0)) (p_X0_ledLegs x0) := by
  unfold f_X0_ledLegs p_X0_ledLegs
  refine Lft_bnd (Lft_gO) (fun x9 v1 e9 => ?_)
  subst e9
  refine Lft_ifn (fun _ => ?_) (fun _ => ?_)
  · refine Lft_bnd (Lft_gA (a := (adO y 5 (2 * x0))) (fun F => rfl)) (fun v8 _ e9 => ?_)
    subst e9
    refine Lft_bnd (Lft_gI (fun F => rfl)) (fun v11 z9 e9 => ?_)
    subst e9
    exact Lf_X0_ledLegs_b32 v11
  · refine Lft_bnd (Lft_gA (a := (adO y 5 (2 * x0))) (fun F => rfl)) (fun v18 _ e9 => ?_)
    subst e9
    refine Lft_bnd (Lft_gI (fun F => rfl)) (fun v21 z9 e9 => ?_)
    subst e9
    refine Lft_bnd (Lft_gB) (fun v25 _ e9 => ?_)
    subst e9
    refine Lft_bnd (Lft_gI (fun F => rfl)) (fun v28 z9 e9 => ?_)
    subst e9
    exact Lf_X0_ledLegs_b32 (v21 + v28)
def p_X0_ledLeg_b18 (x0 : Nat) (x1 : Int32) (x2 : Int32) : PM Int32 :=
    pbnd (pchk 1 x0) fun _ =>
    pbnd (pbnd (pchk 5 (2 * x0)) fun _ => p_X4_legNumber (2 * x0) x1 x2) fun v24 =>
    prt v24
set_option maxRecDepth 20000 in
theorem Lf_X0_ledLeg_b18 {y : LY} {t0 mi : Nat} (x0 : Nat) (x1 : Int32) (x2 : Int32) : Lft y Eq (X0_ledLeg_b18 t0 mi (adO y 1 x0) x1 x2) (p_X0_ledLeg_b18 x0 x1 x2) := by
  unfold X0_ledLeg_b18 p_X0_ledLeg_b18
  refine Lft_bnd (Lft_gA (a := (adO y 5 (2 * x0))) (fun F => rfl)) (fun v19 _ e9 => ?_)
  subst e9
  refine Lft_bnd (Lft_vc (Lf_f_X4_legNumber (2 * x0) x1 x2)) (fun v24 z9 e9 => ?_)
  subst e9
  exact Lft_rt rfl
def p_X0_ledLeg (x0 : Nat) (x1 : Int32) (x2 : Int32) : PM Int32 :=
    pbnd (pgO x0) fun v1 =>
    (if v1 = none then
    p_X0_ledLeg_b18 x0 x1 x2
    else
    pbnd (pchk 1 x0) fun _ =>
    pbnd (pgI 5 (2 * x0) 7) fun v12 =>
    (if v12 ≤ x1 then
    pbnd (pgB x0) fun _ =>
    pbnd (pchk 1 x0) fun _ =>
    pbnd (pgI 5 (2 * x0) 7) fun v37 =>
    pbnd (pbnd (pchk 5 (2 * x0 + 1)) fun _ => p_X4_legNumber (2 * x0 + 1) (x1 - v37) x2) fun v42 =>
    prt v42
    else
    p_X0_ledLeg_b18 x0 x1 x2))
set_option maxRecDepth 20000 in
theorem Lf_f_X0_ledLeg {y : LY} {t0 mi : Nat} (x0 : Nat) (x1 : Int32) (x2 : Int32) : Lft y Eq (f_X0_ledLeg t0 mi (adO y 1 x0) x1 x2) (p_X0_ledLeg x0 x1 x2) := by
  unfold f_X0_ledLeg p_X0_ledLeg
  refine Lft_bnd (Lft_gO) (fun x9 v1 e9 => ?_)
  subst e9
  refine Lft_ifn (fun _ => ?_) (fun _ => ?_)
  · exact Lf_X0_ledLeg_b18 x0 x1 x2
  · refine Lft_bnd (Lft_gA (a := (adO y 5 (2 * x0))) (fun F => rfl)) (fun v9 _ e9 => ?_)
    subst e9
    refine Lft_bnd (Lft_gI (fun F => rfl)) (fun v12 z9 e9 => ?_)
    subst e9
    refine Lft_if (fun _ => ?_) (fun _ => ?_)
    · refine Lft_bnd (Lft_gB) (fun v29 _ e9 => ?_)
      subst e9
      refine Lft_bnd (Lft_gA (a := (adO y 5 (2 * x0))) (fun F => rfl)) (fun v34 _ e9 => ?_)
      subst e9
      refine Lft_bnd (Lft_gI (fun F => rfl)) (fun v37 z9 e9 => ?_)
      subst e9
      refine Lft_bnd (Lft_vc (Lf_f_X4_legNumber (2 * x0 + 1) (x1 - v37) x2)) (fun v42 z9 e9 => ?_)
      subst e9
      exact Lft_rt rfl
    · exact Lf_X0_ledLeg_b18 x0 x1 x2
def p_X5_leg_b29 : PM Int32 :=
    pthr "java/util/NoSuchElementException"
set_option maxRecDepth 20000 in
theorem Lf_X5_leg_b29 {y : LY} {t0 mi : Nat} : Lft y Eq (X5_leg_b29 t0 mi) (p_X5_leg_b29) := by
  unfold X5_leg_b29 p_X5_leg_b29
  exact Lft_thr
def p_X5_leg (x1 : Int32) (x2 : Int32) (x3 : Int32) : PM Int32 :=
    pbnd (pbnd (pchk 6 0) fun _ => p_X5_boxOf x1) fun v2 =>
    (if x3 < 0 then
    p_X5_leg_b29
    else
    (if (3 : Int32) ≤ x3 then
    p_X5_leg_b29
    else
    (if x2 < 0 then
    p_X5_leg_b29
    else
    pbnd (pbnd (pchk 1 v2) fun _ => p_X0_ledLegs v2) fun v23 =>
    (if x2 < v23 then
    pbnd (pbnd (pchk 1 v2) fun _ => p_X0_ledLeg v2 x2 x3) fun v43 =>
    prt v43
    else
    p_X5_leg_b29))))
set_option maxRecDepth 20000 in
theorem Lf_f_X5_leg {y : LY} {t0 mi : Nat} (x1 : Int32) (x2 : Int32) (x3 : Int32) : Lft y Eq (f_X5_leg t0 mi (adO y 6 0) x1 x2 x3) (p_X5_leg x1 x2 x3) := by
  unfold f_X5_leg p_X5_leg
  refine Lft_bnd (Lft_vc (Lf_f_X5_boxOf x1)) (fun x9 v2 e9 => ?_)
  subst e9
  refine Lft_if (fun _ => ?_) (fun _ => ?_)
  · exact Lf_X5_leg_b29
  · refine Lft_if (fun _ => ?_) (fun _ => ?_)
    · exact Lf_X5_leg_b29
    · refine Lft_if (fun _ => ?_) (fun _ => ?_)
      · exact Lf_X5_leg_b29
      · refine Lft_bnd (Lft_vc (Lf_f_X0_ledLegs v2)) (fun v23 z9 e9 => ?_)
        subst e9
        refine Lft_if (fun _ => ?_) (fun _ => ?_)
        · refine Lft_bnd (Lft_vc (Lf_f_X0_ledLeg v2 x2 x3)) (fun v43 z9 e9 => ?_)
          subst e9
          exact Lft_rt rfl
        · exact Lf_X5_leg_b29
def p_L_leg (x1 : Int32) (x2 : Int32) (x3 : Int32) : PM Int32 :=
    pctc (pbnd (pchk 6 0) fun _ => p_X5_leg x1 x2 x3) (fun v7 =>
    pbnd (pstO (0 : Int32) v7.toInt64) fun _ =>
    prt (0 : Int32)) (fun E =>
    (if E = "java/util/NoSuchElementException" then
    prt (1 : Int32)
    else
    pflr))
set_option maxRecDepth 20000 in
theorem Lf_f_L_leg {y : LY} {t0 mi : Nat} (x1 : Int32) (x2 : Int32) (x3 : Int32) : Lft y Eq (f_L_leg t0 mi (adO y 6 0) x1 x2 x3 (yB y + 45)) (p_L_leg x1 x2 x3) := by
  unfold f_L_leg p_L_leg
  refine Lft_ctc (Lft_vc (Lf_f_X5_leg x1 x2 x3)) (fun v7 z9 e9 => ?_) (fun E => ?_)
  · subst e9
    refine Lft_bnd (Lft_stO) (fun _ _ _ => ?_)
    exact Lft_rt rfl
  · refine Lft_if (fun _ => ?_) (fun _ => ?_)
    · exact Lft_rt rfl
    · exact Lft_flr
def p_X6_leg_b49 : PM Int32 :=
    pbnd (pbnd (pchk 7 0) fun _ => p_X6_fail) fun v50 =>
    prt v50
set_option maxRecDepth 20000 in
theorem Lf_X6_leg_b49 {y : LY} {t0 mi : Nat} : Lft y Eq (X6_leg_b49 t0 mi (adO y 7 0)) (p_X6_leg_b49) := by
  unfold X6_leg_b49 p_X6_leg_b49
  refine Lft_bnd (Lft_vc (Lf_f_X6_fail)) (fun v50 z9 e9 => ?_)
  subst e9
  exact Lft_rt rfl
def p_X6_leg_b132 (s0 : Int32) : PM Int32 :=
    prt s0
set_option maxRecDepth 20000 in
theorem Lf_X6_leg_b132 {y : LY} {t0 mi : Nat} (s0 : Int32) : Lft y Eq (X6_leg_b132 t0 mi s0) (p_X6_leg_b132 s0) := by
  unfold X6_leg_b132 p_X6_leg_b132
  exact Lft_rt rfl
def p_X6_leg_b94 (x3 : Int32) (s0 : Int32) : PM Int32 :=
    (if x3 = 0 then
    pbnd (pchk 7 0) fun _ =>
    pbnd (pld 9 27 s0) fun v106 =>
    p_X6_leg_b132 v106
    else
    (if x3 = (1 : Int32) then
    pbnd (pchk 7 0) fun _ =>
    pbnd (pld 9 28 s0) fun v121 =>
    p_X6_leg_b132 v121
    else
    pbnd (pchk 7 0) fun _ =>
    pbnd (pld 9 29 s0) fun v131 =>
    p_X6_leg_b132 v131))
set_option maxRecDepth 20000 in
theorem Lf_X6_leg_b94 {y : LY} {t0 mi : Nat} (x3 : Int32) (s0 : Int32) : Lft y Eq (X6_leg_b94 t0 mi (adO y 7 0) x3 s0) (p_X6_leg_b94 x3 s0) := by
  unfold X6_leg_b94 p_X6_leg_b94
  refine Lft_if (fun _ => ?_) (fun _ => ?_)
  · refine Lft_bnd (Lft_gA (a := (adA y 9 27)) (fun F => rfl)) (fun v101 _ e9 => ?_)
    subst e9
    refine Lft_bnd (Lft_ld rfl) (fun v106 z9 e9 => ?_)
    subst e9
    exact Lf_X6_leg_b132 v106
  · refine Lft_if (fun _ => ?_) (fun _ => ?_)
    · refine Lft_bnd (Lft_gA (a := (adA y 9 28)) (fun F => rfl)) (fun v116 _ e9 => ?_)
      subst e9
      refine Lft_bnd (Lft_ld rfl) (fun v121 z9 e9 => ?_)
      subst e9
      exact Lf_X6_leg_b132 v121
    · refine Lft_bnd (Lft_gA (a := (adA y 9 29)) (fun F => rfl)) (fun v126 _ e9 => ?_)
      subst e9
      refine Lft_bnd (Lft_ld rfl) (fun v131 z9 e9 => ?_)
      subst e9
      exact Lf_X6_leg_b132 v131
def p_X6_leg (x1 : Int32) (x2 : Int32) (x3 : Int32) : PM Int32 :=
    pbnd (ppI 7 0 0 (0 : Int32)) fun _ =>
    pbnd (pbnd (pchk 7 0) fun _ => p_X6_isBox x1) fun v7 =>
    (if v7 = 0 then
    p_X6_leg_b49
    else
    (if x2 < 0 then
    p_X6_leg_b49
    else
    pbnd (pchk 7 0) fun _ =>
    pbnd (pld 9 24 ((2 : Int32) * x1)) fun v25 =>
    pbnd (pchk 7 0) fun _ =>
    pbnd (pld 9 24 (((2 : Int32) * x1) + (1 : Int32))) fun v35 =>
    (if (v25 + v35) ≤ x2 then
    p_X6_leg_b49
    else
    (if x3 < 0 then
    p_X6_leg_b49
    else
    (if x3 ≤ (2 : Int32) then
    pbnd (pchk 7 0) fun _ =>
    pbnd (pld 9 24 ((2 : Int32) * x1)) fun v62 =>
    (if v62 ≤ x2 then
    pbnd (pchk 7 0) fun _ =>
    pbnd (pld 9 24 ((2 : Int32) * x1)) fun v89 =>
    pbnd (p_X6_legAt (((2 : Int32) * x1) + (1 : Int32)) (x2 - v89)) fun v91 =>
    p_X6_leg_b94 x3 v91
    else
    pbnd (p_X6_legAt ((2 : Int32) * x1) x2) fun v70 =>
    p_X6_leg_b94 x3 v70)
    else
    p_X6_leg_b49)))))
set_option maxRecDepth 20000 in
theorem Lf_f_X6_leg {y : LY} {t0 mi : Nat} (x1 : Int32) (x2 : Int32) (x3 : Int32) : Lft y Eq (f_X6_leg t0 mi (adO y 7 0) x1 x2 x3) (p_X6_leg x1 x2 x3) := by
  unfold f_X6_leg p_X6_leg
  refine Lft_bnd (Lft_pI ⟨by decide, by decide⟩ (fun F => ⟨by simp [fds, u3], by simp [fds]⟩)) (fun _ _ _ => ?_)
  refine Lft_bnd (Lft_vc (Lf_f_X6_isBox x1)) (fun v7 z9 e9 => ?_)
  subst e9
  refine Lft_if (fun _ => ?_) (fun _ => ?_)
  · exact Lf_X6_leg_b49
  · refine Lft_if (fun _ => ?_) (fun _ => ?_)
    · exact Lf_X6_leg_b49
    · refine Lft_bnd (Lft_gA (a := (adA y 9 24)) (fun F => rfl)) (fun v19 _ e9 => ?_)
      subst e9
      refine Lft_bnd (Lft_ld rfl) (fun v25 z9 e9 => ?_)
      subst e9
      refine Lft_bnd (Lft_gA (a := (adA y 9 24)) (fun F => rfl)) (fun v27 _ e9 => ?_)
      subst e9
      refine Lft_bnd (Lft_ld rfl) (fun v35 z9 e9 => ?_)
      subst e9
      refine Lft_if (fun _ => ?_) (fun _ => ?_)
      · exact Lf_X6_leg_b49
      · refine Lft_if (fun _ => ?_) (fun _ => ?_)
        · exact Lf_X6_leg_b49
        · refine Lft_if (fun _ => ?_) (fun _ => ?_)
          · refine Lft_bnd (Lft_gA (a := (adA y 9 24)) (fun F => rfl)) (fun v56 _ e9 => ?_)
            subst e9
            refine Lft_bnd (Lft_ld rfl) (fun v62 z9 e9 => ?_)
            subst e9
            refine Lft_if (fun _ => ?_) (fun _ => ?_)
            · refine Lft_bnd (Lft_gA (a := (adA y 9 24)) (fun F => rfl)) (fun v83 _ e9 => ?_)
              subst e9
              refine Lft_bnd (Lft_ld rfl) (fun v89 z9 e9 => ?_)
              subst e9
              refine Lft_bnd (Lf_f_X6_legAt (((2 : Int32) * x1) + (1 : Int32)) (x2 - v89)) (fun v91 z9 e9 => ?_)
              subst e9
              exact Lf_X6_leg_b94 x3 v91
            · refine Lft_bnd (Lf_f_X6_legAt ((2 : Int32) * x1) x2) (fun v70 z9 e9 => ?_)
              subst e9
              exact Lf_X6_leg_b94 x3 v70
          · exact Lf_X6_leg_b49
def p_X5_load_b20 : PM Int32 :=
    pthr "java/util/NoSuchElementException"
set_option maxRecDepth 20000 in
theorem Lf_X5_load_b20 {y : LY} {t0 mi : Nat} : Lft y Eq (X5_load_b20 t0 mi) (p_X5_load_b20) := by
  unfold X5_load_b20 p_X5_load_b20
  exact Lft_thr
def p_X5_load (x1 : Int32) (x2 : Int32) : PM Int32 :=
    pbnd (pbnd (pchk 6 0) fun _ => p_X5_trainOf x1) fun v2 =>
    (if x2 < 0 then
    p_X5_load_b20
    else
    pbnd (pgI 4 v2 4) fun v12 =>
    (if x2 < (v12 - (1 : Int32)) then
    pbnd (pchk 4 v2) fun _ =>
    pbnd (pld 7 v2 x2) fun v35 =>
    prt v35
    else
    p_X5_load_b20))
set_option maxRecDepth 20000 in
theorem Lf_f_X5_load {y : LY} {t0 mi : Nat} (x1 : Int32) (x2 : Int32) : Lft y Eq (f_X5_load t0 mi (adO y 6 0) x1 x2) (p_X5_load x1 x2) := by
  unfold f_X5_load p_X5_load
  refine Lft_bnd (Lft_vc (Lf_f_X5_trainOf x1)) (fun x9 v2 e9 => ?_)
  subst e9
  refine Lft_if (fun _ => ?_) (fun _ => ?_)
  · exact Lf_X5_load_b20
  · refine Lft_bnd (Lft_gI (fun F => rfl)) (fun v12 z9 e9 => ?_)
    subst e9
    refine Lft_if (fun _ => ?_) (fun _ => ?_)
    · refine Lft_bnd (Lft_gA (a := (adA y 7 v2)) (fun F => rfl)) (fun v31 _ e9 => ?_)
      subst e9
      refine Lft_bnd (Lft_ld rfl) (fun v35 z9 e9 => ?_)
      subst e9
      exact Lft_rt rfl
    · exact Lf_X5_load_b20
def p_L_load (x1 : Int32) (x2 : Int32) : PM Int32 :=
    pctc (pbnd (pchk 6 0) fun _ => p_X5_load x1 x2) (fun v5 =>
    pbnd (pstO (0 : Int32) v5.toInt64) fun _ =>
    prt (0 : Int32)) (fun E =>
    (if E = "java/util/NoSuchElementException" then
    prt (1 : Int32)
    else
    pflr))
set_option maxRecDepth 20000 in
theorem Lf_f_L_load {y : LY} {t0 mi : Nat} (x1 : Int32) (x2 : Int32) : Lft y Eq (f_L_load t0 mi (adO y 6 0) x1 x2 (yB y + 45)) (p_L_load x1 x2) := by
  unfold f_L_load p_L_load
  refine Lft_ctc (Lft_vc (Lf_f_X5_load x1 x2)) (fun v5 z9 e9 => ?_) (fun E => ?_)
  · subst e9
    refine Lft_bnd (Lft_stO) (fun _ _ _ => ?_)
    exact Lft_rt rfl
  · refine Lft_if (fun _ => ?_) (fun _ => ?_)
    · exact Lft_rt rfl
    · exact Lft_flr
def p_X6_load_b46 (s0 : Int32) : PM Int32 :=
    prt s0
set_option maxRecDepth 20000 in
theorem Lf_X6_load_b46 {y : LY} {t0 mi : Nat} (s0 : Int32) : Lft y Eq (X6_load_b46 t0 mi s0) (p_X6_load_b46 s0) := by
  unfold X6_load_b46 p_X6_load_b46
  exact Lft_rt rfl
def p_X6_load_b42 : PM Int32 :=
    pbnd (pbnd (pchk 7 0) fun _ => p_X6_fail) fun v43 =>
    p_X6_load_b46 v43
set_option maxRecDepth 20000 in
theorem Lf_X6_load_b42 {y : LY} {t0 mi : Nat} : Lft y Eq (X6_load_b42 t0 mi (adO y 7 0)) (p_X6_load_b42) := by
  unfold X6_load_b42 p_X6_load_b42
  refine Lft_bnd (Lft_vc (Lf_f_X6_fail)) (fun v43 z9 e9 => ?_)
  subst e9
  exact Lf_X6_load_b46 v43
def p_X6_load (x1 : Int32) (x2 : Int32) : PM Int32 :=
    pbnd (ppI 7 0 0 (0 : Int32)) fun _ =>
    pbnd (pbnd (pchk 7 0) fun _ => p_X6_isTrain x1) fun v7 =>
    (if v7 = 0 then
    p_X6_load_b42
    else
    (if x2 < 0 then
    p_X6_load_b42
    else
    pbnd (pchk 7 0) fun _ =>
    pbnd (pld 9 8 x1) fun v23 =>
    (if (v23 - (1 : Int32)) ≤ x2 then
    p_X6_load_b42
    else
    pbnd (pchk 7 0) fun _ =>
    pbnd (p_X6_node x1 x2) fun v35 =>
    pbnd (pld 9 11 v35) fun v38 =>
    p_X6_load_b46 v38)))
set_option maxRecDepth 20000 in
theorem Lf_f_X6_load {y : LY} {t0 mi : Nat} (x1 : Int32) (x2 : Int32) : Lft y Eq (f_X6_load t0 mi (adO y 7 0) x1 x2) (p_X6_load x1 x2) := by
  unfold f_X6_load p_X6_load
  refine Lft_bnd (Lft_pI ⟨by decide, by decide⟩ (fun F => ⟨by simp [fds, u3], by simp [fds]⟩)) (fun _ _ _ => ?_)
  refine Lft_bnd (Lft_vc (Lf_f_X6_isTrain x1)) (fun v7 z9 e9 => ?_)
  subst e9
  refine Lft_if (fun _ => ?_) (fun _ => ?_)
  · exact Lf_X6_load_b42
  · refine Lft_if (fun _ => ?_) (fun _ => ?_)
    · exact Lf_X6_load_b42
    · refine Lft_bnd (Lft_gA (a := (adA y 9 8)) (fun F => rfl)) (fun v19 _ e9 => ?_)
      subst e9
      refine Lft_bnd (Lft_ld rfl) (fun v23 z9 e9 => ?_)
      subst e9
      refine Lft_if (fun _ => ?_) (fun _ => ?_)
      · exact Lf_X6_load_b42
      · refine Lft_bnd (Lft_gA (a := (adA y 9 11)) (fun F => rfl)) (fun v30 _ e9 => ?_)
        subst e9
        refine Lft_bnd (Lf_f_X6_node x1 x2) (fun v35 z9 e9 => ?_)
        subst e9
        refine Lft_bnd (Lft_ld rfl) (fun v38 z9 e9 => ?_)
        subst e9
        exact Lf_X6_load_b46 v38
def p_X4_isThereBy_b20 (s0 : Int32) : PM Int32 :=
    prtZ s0
set_option maxRecDepth 20000 in
theorem Lf_X4_isThereBy_b20 {y : LY} {t0 mi : Nat} (s0 : Int32) : Lft y Eq (X4_isThereBy_b20 t0 mi s0) (p_X4_isThereBy_b20 s0) := by
  unfold X4_isThereBy_b20 p_X4_isThereBy_b20
  exact Lft_rtZ
def p_X4_isThereBy_b19 : PM Int32 :=
    p_X4_isThereBy_b20 (0 : Int32)
set_option maxRecDepth 20000 in
theorem Lf_X4_isThereBy_b19 {y : LY} {t0 mi : Nat} : Lft y Eq (X4_isThereBy_b19 t0 mi) (p_X4_isThereBy_b19) := by
  unfold X4_isThereBy_b19 p_X4_isThereBy_b19
  exact Lf_X4_isThereBy_b20 (0 : Int32)
def p_X4_isThereBy (x0 : Nat) (x1 : Int32) : PM Int32 :=
    pbnd (pbnd (pchk 5 x0) fun _ => p_X4_hasWay x0) fun v1 =>
    (if v1 = 0 then
    p_X4_isThereBy_b19
    else
    pbnd (pgI 5 x0 9) fun v8 =>
    (if x1 < v8 then
    p_X4_isThereBy_b19
    else
    p_X4_isThereBy_b20 (1 : Int32)))
set_option maxRecDepth 20000 in
theorem Lf_f_X4_isThereBy {y : LY} {t0 mi : Nat} (x0 : Nat) (x1 : Int32) : Lft y Eq (f_X4_isThereBy t0 mi (adO y 5 x0) x1) (p_X4_isThereBy x0 x1) := by
  unfold f_X4_isThereBy p_X4_isThereBy
  refine Lft_bnd (Lft_vc (Lf_f_X4_hasWay x0)) (fun v1 z9 e9 => ?_)
  subst e9
  refine Lft_if (fun _ => ?_) (fun _ => ?_)
  · exact Lf_X4_isThereBy_b19
  · refine Lft_bnd (Lft_gI (fun F => rfl)) (fun v8 z9 e9 => ?_)
    subst e9
    refine Lft_if (fun _ => ?_) (fun _ => ?_)
    · exact Lf_X4_isThereBy_b19
    · exact Lf_X4_isThereBy_b20 (1 : Int32)
def p_X2_isAboard_b74 (kh2 : Int32 → PM Int32) (x1 : Nat) (x2 : Int32) (x3 : Int32) : PM Int32 :=
    kh2 (x3 + 1)
set_option maxRecDepth 20000 in
theorem Lf_X2_isAboard_b74 {y : LY} {t0 mi : Nat} (x1 : Nat) (x2 : Int32) (x3 : Int32) (kh2 : Int32 → Mo Int32) (pkh2 : Int32 → PM Int32) (hkh2 : ∀ (z0 : Int32), Lft y Eq (kh2 z0) (pkh2 z0)) : Lft y Eq (X2_isAboard_b74 t0 mi kh2 (adO y 3 0) (adO y 5 x1) x2 x3) (p_X2_isAboard_b74 pkh2 x1 x2 x3) := by
  unfold X2_isAboard_b74 p_X2_isAboard_b74
  exact hkh2 (x3 + 1)
def p_X2_isAboard_b49 (kh2 : Int32 → PM Int32) (x1 : Nat) (x2 : Int32) (x3 : Int32) (x4 : Nat) (s0 : Int32) : PM Int32 :=
    (if s0 = 0 then
    p_X2_isAboard_b74 kh2 x1 x2 x3
    else
    pbnd (pchk 4 x4) fun _ =>
    pbnd (pbnd (pchk 5 x1) fun _ => p_X4_legNumber x1 x3 (2 : Int32)) fun v64 =>
    pbnd (pld 6 x4 v64) fun v67 =>
    (if v67 ≤ x2 then
    p_X2_isAboard_b74 kh2 x1 x2 x3
    else
    prtZ (1 : Int32)))
set_option maxRecDepth 20000 in
theorem Lf_X2_isAboard_b49 {y : LY} {t0 mi : Nat} (x1 : Nat) (x2 : Int32) (x3 : Int32) (x4 : Nat) (s0 : Int32) (kh2 : Int32 → Mo Int32) (pkh2 : Int32 → PM Int32) (hkh2 : ∀ (z0 : Int32), Lft y Eq (kh2 z0) (pkh2 z0)) : Lft y Eq (X2_isAboard_b49 t0 mi kh2 (adO y 3 0) (adO y 5 x1) x2 x3 (adO y 4 x4) s0) (p_X2_isAboard_b49 pkh2 x1 x2 x3 x4 s0) := by
  unfold X2_isAboard_b49 p_X2_isAboard_b49
  refine Lft_if (fun _ => ?_) (fun _ => ?_)
  · exact Lf_X2_isAboard_b74 x1 x2 x3 _ _ hkh2
  · refine Lft_bnd (Lft_gA (a := (adA y 6 x4)) (fun F => rfl)) (fun v58 _ e9 => ?_)
    subst e9
    refine Lft_bnd (Lft_vc (Lf_f_X4_legNumber x1 x3 (2 : Int32))) (fun v64 z9 e9 => ?_)
    subst e9
    refine Lft_bnd (Lft_ld rfl) (fun v67 z9 e9 => ?_)
    subst e9
    refine Lft_if (fun _ => ?_) (fun _ => ?_)
    · exact Lf_X2_isAboard_b74 x1 x2 x3 _ _ hkh2
    · exact Lft_rtZ
def p_X2_isAboard_L2 (x1 : Nat) (x2 : Int32) (kx : PM Int32) : Nat → Int32 → PM Int32
  | 0, _ => pflr
  | n + 1, x3 =>
    pbnd (pgI 5 x1 7) fun v4 =>
    (if v4 ≤ x3 then
    kx
    else
    pbnd (pchk 3 0) fun _ =>
    pbnd (pbnd (pchk 5 x1) fun _ => p_X4_legNumber x1 x3 (0 : Int32)) fun v17 =>
    pbnd (pbnd (pchk 0 0) fun _ => pget 0 v17) fun _ =>
    pbnd (pchk 4 v17.toNatClampNeg) fun _ =>
    pbnd (pchk 4 v17.toNatClampNeg) fun _ =>
    pbnd (pbnd (pchk 5 x1) fun _ => p_X4_legNumber x1 x3 (1 : Int32)) fun v36 =>
    pbnd (pld 6 v17.toNatClampNeg v36) fun v39 =>
    (if x2 < v39 then
    p_X2_isAboard_b49 (p_X2_isAboard_L2 x1 x2 kx n) x1 x2 x3 v17.toNatClampNeg (0 : Int32)
    else
    p_X2_isAboard_b49 (p_X2_isAboard_L2 x1 x2 kx n) x1 x2 x3 v17.toNatClampNeg (1 : Int32)))
set_option maxRecDepth 20000 in
theorem Lf_X2_isAboard_L2 {y : LY} {t0 mi : Nat} (x1 : Nat) (x2 : Int32) (kx : Mo Int32) (pkx : PM Int32) (hkx : Lft y Eq kx pkx) : ∀ (n : Nat) (x3 : Int32), Lft y Eq (X2_isAboard_L2 t0 mi (adO y 3 0) (adO y 5 x1) x2 kx n x3) (p_X2_isAboard_L2 x1 x2 pkx n x3) := by
  intro n
  induction n with
  | zero => intro x3; rw [p_X2_isAboard_L2]; exact Lft_flr
  | succ n ih =>
    intro x3; rw [X2_isAboard_L2, p_X2_isAboard_L2]
    refine Lft_bnd (Lft_gI (fun F => rfl)) (fun v4 z9 e9 => ?_)
    subst e9
    refine Lft_if (fun _ => ?_) (fun _ => ?_)
    · exact hkx
    · refine Lft_bnd (Lft_gA (a := (adO y 0 0)) (fun F => rfl)) (fun v11 _ e9 => ?_)
      subst e9
      refine Lft_bnd (Lft_vc (Lf_f_X4_legNumber x1 x3 (0 : Int32))) (fun v17 z9 e9 => ?_)
      subst e9
      refine Lft_bnd (Lft_vc (Lft_get0)) (fun v20 _ e9 => ?_)
      subst e9
      refine Lft_bnd (Lft_isC) (fun _ _ _ => ?_)
      refine Lft_bnd (Lft_gA (a := (adA y 6 v17.toNatClampNeg)) (fun F => rfl)) (fun v30 _ e9 => ?_)
      subst e9
      refine Lft_bnd (Lft_vc (Lf_f_X4_legNumber x1 x3 (1 : Int32))) (fun v36 z9 e9 => ?_)
      subst e9
      refine Lft_bnd (Lft_ld rfl) (fun v39 z9 e9 => ?_)
      subst e9
      refine Lft_if (fun _ => ?_) (fun _ => ?_)
      · exact Lf_X2_isAboard_b49 x1 x2 x3 v17.toNatClampNeg (0 : Int32) _ _ ih
      · exact Lf_X2_isAboard_b49 x1 x2 x3 v17.toNatClampNeg (1 : Int32) _ _ ih
def p_X2_isAboard (x1 : Nat) (x2 : Int32) : PM Int32 :=
    p_X2_isAboard_L2 x1 x2 (prtZ (0 : Int32)) FU (0 : Int32)
set_option maxRecDepth 20000 in
theorem Lf_f_X2_isAboard {y : LY} {t0 mi : Nat} (x1 : Nat) (x2 : Int32) : Lft y Eq (f_X2_isAboard t0 mi (adO y 3 0) (adO y 5 x1) x2) (p_X2_isAboard x1 x2) := by
  unfold f_X2_isAboard p_X2_isAboard
  refine Lf_X2_isAboard_L2 x1 x2 _ _ ?_ FU (0 : Int32)
  exact Lft_rtZ
def p_X5_where_b68 (s0 : Int32) : PM Int32 :=
    prt s0
set_option maxRecDepth 20000 in
theorem Lf_X5_where_b68 {y : LY} {t0 mi : Nat} (s0 : Int32) : Lft y Eq (X5_where_b68 t0 mi s0) (p_X5_where_b68 s0) := by
  unfold X5_where_b68 p_X5_where_b68
  exact Lft_rt rfl
def p_X5_where (x1 : Int32) : PM Int32 :=
    pbnd (pbnd (pchk 6 0) fun _ => p_X5_boxOf x1) fun v2 =>
    pbnd (pbnd (pchk 1 v2) fun _ => p_X0_current v2) fun v5 =>
    pbnd (pgI 6 0 4) fun v11 =>
    pbnd (pbnd (pchk 5 v5) fun _ => p_X4_isGoneBy v5 v11) fun v14 =>
    (if v14 = 0 then
    prt (0 : Int32)
    else
    pbnd (pgI 6 0 4) fun v24 =>
    pbnd (pbnd (pchk 5 v5) fun _ => p_X4_hasArrivedBy v5 v24) fun v27 =>
    (if v27 = 0 then
    pbnd (pgI 6 0 4) fun v37 =>
    pbnd (pbnd (pchk 5 v5) fun _ => p_X4_isThereBy v5 v37) fun v40 =>
    (if v40 = 0 then
    pbnd (pchk 6 0) fun _ =>
    pbnd (pgI 6 0 4) fun v54 =>
    pbnd (pbnd (pchk 3 0) fun _ => p_X2_isAboard v5 v54) fun v57 =>
    (if v57 = 0 then
    p_X5_where_b68 (1 : Int32)
    else
    p_X5_where_b68 (2 : Int32))
    else
    prt (3 : Int32))
    else
    prt (4 : Int32)))
set_option maxRecDepth 20000 in
theorem Lf_f_X5_where {y : LY} {t0 mi : Nat} (x1 : Int32) : Lft y Eq (f_X5_where t0 mi (adO y 6 0) x1) (p_X5_where x1) := by
  unfold f_X5_where p_X5_where
  refine Lft_bnd (Lft_vc (Lf_f_X5_boxOf x1)) (fun x9 v2 e9 => ?_)
  subst e9
  refine Lft_bnd (Lft_vc (Lf_f_X0_current v2)) (fun x9 v5 e9 => ?_)
  subst e9
  refine Lft_bnd (Lft_gI (fun F => rfl)) (fun v11 z9 e9 => ?_)
  subst e9
  refine Lft_bnd (Lft_vc (Lf_f_X4_isGoneBy v5 v11)) (fun v14 z9 e9 => ?_)
  subst e9
  refine Lft_if (fun _ => ?_) (fun _ => ?_)
  · exact Lft_rt rfl
  · refine Lft_bnd (Lft_gI (fun F => rfl)) (fun v24 z9 e9 => ?_)
    subst e9
    refine Lft_bnd (Lft_vc (Lf_f_X4_hasArrivedBy v5 v24)) (fun v27 z9 e9 => ?_)
    subst e9
    refine Lft_if (fun _ => ?_) (fun _ => ?_)
    · refine Lft_bnd (Lft_gI (fun F => rfl)) (fun v37 z9 e9 => ?_)
      subst e9
      refine Lft_bnd (Lft_vc (Lf_f_X4_isThereBy v5 v37)) (fun v40 z9 e9 => ?_)
      subst e9
      refine Lft_if (fun _ => ?_) (fun _ => ?_)
      · refine Lft_bnd (Lft_gA (a := (adO y 3 0)) (fun F => rfl)) (fun v49 _ e9 => ?_)
        subst e9
        refine Lft_bnd (Lft_gI (fun F => rfl)) (fun v54 z9 e9 => ?_)
        subst e9
        refine Lft_bnd (Lft_vc (Lf_f_X2_isAboard v5 v54)) (fun v57 z9 e9 => ?_)
        subst e9
        refine Lft_if (fun _ => ?_) (fun _ => ?_)
        · exact Lf_X5_where_b68 (1 : Int32)
        · exact Lf_X5_where_b68 (2 : Int32)
      · exact Lft_rt rfl
    · exact Lft_rt rfl
def p_L_where (x1 : Int32) : PM Int32 :=
    pctc (pbnd (pchk 6 0) fun _ => p_X5_where x1) (fun v4 =>
    pbnd (pstO (0 : Int32) v4.toInt64) fun _ =>
    prt (0 : Int32)) (fun E =>
    (if E = "java/util/NoSuchElementException" then
    prt (1 : Int32)
    else
    pflr))
set_option maxRecDepth 20000 in
theorem Lf_f_L_where {y : LY} {t0 mi : Nat} (x1 : Int32) : Lft y Eq (f_L_where t0 mi (adO y 6 0) x1 (yB y + 45)) (p_L_where x1) := by
  unfold f_L_where p_L_where
  refine Lft_ctc (Lft_vc (Lf_f_X5_where x1)) (fun v4 z9 e9 => ?_) (fun E => ?_)
  · subst e9
    refine Lft_bnd (Lft_stO) (fun _ _ _ => ?_)
    exact Lft_rt rfl
  · refine Lft_if (fun _ => ?_) (fun _ => ?_)
    · exact Lft_rt rfl
    · exact Lft_flr
def p_X6_where_L36 (x1 : Int32) (x2 : Int32) (kx : PM Int32) : Nat → Int32 → PM Int32
  | 0, _ => pflr
  | n + 1, x3 =>
    pbnd (pchk 7 0) fun _ =>
    pbnd (pld 9 24 x2) fun v42 =>
    (if v42 ≤ x3 then
    kx
    else
    pbnd (p_X6_legAt x2 x3) fun v48 =>
    pbnd (pgI 7 0 1) fun v54 =>
    pbnd (pchk 7 0) fun _ =>
    pbnd (pchk 7 0) fun _ =>
    pbnd (pld 9 27 v48) fun v67 =>
    pbnd (pchk 7 0) fun _ =>
    pbnd (pld 9 28 v48) fun v74 =>
    pbnd (p_X6_node v67 v74) fun v75 =>
    pbnd (pld 9 10 v75) fun v78 =>
    (if v78 ≤ v54 then
    pbnd (pgI 7 0 1) fun v85 =>
    pbnd (pchk 7 0) fun _ =>
    pbnd (pchk 7 0) fun _ =>
    pbnd (pld 9 27 v48) fun v98 =>
    pbnd (pchk 7 0) fun _ =>
    pbnd (pld 9 29 v48) fun v105 =>
    pbnd (p_X6_node v98 v105) fun v106 =>
    pbnd (pld 9 10 v106) fun v109 =>
    (if v109 ≤ v85 then
    p_X6_where_L36 x1 x2 kx n (x3 + 1)
    else
    prt (2 : Int32))
    else
    prt (1 : Int32)))
set_option maxRecDepth 20000 in
theorem Lf_X6_where_L36 {y : LY} {t0 mi : Nat} (x1 : Int32) (x2 : Int32) (kx : Mo Int32) (pkx : PM Int32) (hkx : Lft y Eq kx pkx) : ∀ (n : Nat) (x3 : Int32), Lft y Eq (X6_where_L36 t0 mi (adO y 7 0) x1 x2 kx n x3) (p_X6_where_L36 x1 x2 pkx n x3) := by
  intro n
  induction n with
  | zero => intro x3; rw [p_X6_where_L36]; exact Lft_flr
  | succ n ih =>
    intro x3; rw [X6_where_L36, p_X6_where_L36]
    refine Lft_bnd (Lft_gA (a := (adA y 9 24)) (fun F => rfl)) (fun v38 _ e9 => ?_)
    subst e9
    refine Lft_bnd (Lft_ld rfl) (fun v42 z9 e9 => ?_)
    subst e9
    refine Lft_if (fun _ => ?_) (fun _ => ?_)
    · exact hkx
    · refine Lft_bnd (Lf_f_X6_legAt x2 x3) (fun v48 z9 e9 => ?_)
      subst e9
      refine Lft_bnd (Lft_gI (fun F => rfl)) (fun v54 z9 e9 => ?_)
      subst e9
      refine Lft_bnd (Lft_gA (a := (adA y 9 10)) (fun F => rfl)) (fun v58 _ e9 => ?_)
      subst e9
      refine Lft_bnd (Lft_gA (a := (adA y 9 27)) (fun F => rfl)) (fun v62 _ e9 => ?_)
      subst e9
      refine Lft_bnd (Lft_ld rfl) (fun v67 z9 e9 => ?_)
      subst e9
      refine Lft_bnd (Lft_gA (a := (adA y 9 28)) (fun F => rfl)) (fun v69 _ e9 => ?_)
      subst e9
      refine Lft_bnd (Lft_ld rfl) (fun v74 z9 e9 => ?_)
      subst e9
      refine Lft_bnd (Lf_f_X6_node v67 v74) (fun v75 z9 e9 => ?_)
      subst e9
      refine Lft_bnd (Lft_ld rfl) (fun v78 z9 e9 => ?_)
      subst e9
      refine Lft_if (fun _ => ?_) (fun _ => ?_)
      · refine Lft_bnd (Lft_gI (fun F => rfl)) (fun v85 z9 e9 => ?_)
        subst e9
        refine Lft_bnd (Lft_gA (a := (adA y 9 10)) (fun F => rfl)) (fun v89 _ e9 => ?_)
        subst e9
        refine Lft_bnd (Lft_gA (a := (adA y 9 27)) (fun F => rfl)) (fun v93 _ e9 => ?_)
        subst e9
        refine Lft_bnd (Lft_ld rfl) (fun v98 z9 e9 => ?_)
        subst e9
        refine Lft_bnd (Lft_gA (a := (adA y 9 29)) (fun F => rfl)) (fun v100 _ e9 => ?_)
        subst e9
        refine Lft_bnd (Lft_ld rfl) (fun v105 z9 e9 => ?_)
        subst e9
        refine Lft_bnd (Lf_f_X6_node v98 v105) (fun v106 z9 e9 => ?_)
        subst e9
        refine Lft_bnd (Lft_ld rfl) (fun v109 z9 e9 => ?_)
        subst e9
        refine Lft_if (fun _ => ?_) (fun _ => ?_)
        · exact ih (x3 + 1)
        · exact Lft_rt rfl
      · exact Lft_rt rfl
def p_X6_where_b164 (s0 : Int32) : PM Int32 :=
    prt s0
set_option maxRecDepth 20000 in
theorem Lf_X6_where_b164 {y : LY} {t0 mi : Nat} (s0 : Int32) : Lft y Eq (X6_where_b164 t0 mi s0) (p_X6_where_b164 s0) := by
  unfold X6_where_b164 p_X6_where_b164
  exact Lft_rt rfl
def p_X6_where_b143 : PM Int32 :=
    p_X6_where_b164 (1 : Int32)
set_option maxRecDepth 20000 in
theorem Lf_X6_where_b143 {y : LY} {t0 mi : Nat} : Lft y Eq (X6_where_b143 t0 mi) (p_X6_where_b143) := by
  unfold X6_where_b143 p_X6_where_b143
  exact Lf_X6_where_b164 (1 : Int32)
def p_X6_where (x1 : Int32) : PM Int32 :=
    pbnd (ppI 7 0 0 (0 : Int32)) fun _ =>
    pbnd (pbnd (pchk 7 0) fun _ => p_X6_isBox x1) fun v7 =>
    (if v7 = 0 then
    pbnd (pbnd (pchk 7 0) fun _ => p_X6_fail) fun v14 =>
    prt v14
    else
    pbnd (pbnd (pchk 7 0) fun _ => p_X6_isGone x1) fun v20 =>
    (if v20 = 0 then
    prt (0 : Int32)
    else
    pbnd (pbnd (pchk 7 0) fun _ => p_X6_wayOf x1) fun v30 =>
    p_X6_where_L36 x1 v30 (pbnd (pchk 7 0) fun _ =>
    pbnd (pld 9 23 v30) fun v126 =>
    (if v126 = 0 then
    p_X6_where_b143
    else
    pbnd (pgI 7 0 1) fun v131 =>
    pbnd (pbnd (pchk 7 0) fun _ => p_X6_there v30 x1) fun v137 =>
    (if v137 ≤ v131 then
    pbnd (pgI 7 0 1) fun v148 =>
    pbnd (pbnd (pchk 7 0) fun _ => p_X6_arrives x1) fun v153 =>
    (if v153 ≤ v148 then
    p_X6_where_b164 (4 : Int32)
    else
    p_X6_where_b164 (3 : Int32))
    else
    p_X6_where_b143))) FU (0 : Int32)))
set_option maxRecDepth 20000 in
theorem Lf_f_X6_where {y : LY} {t0 mi : Nat} (x1 : Int32) : Lft y Eq (f_X6_where t0 mi (adO y 7 0) x1) (p_X6_where x1) := by
  unfold f_X6_where p_X6_where
  refine Lft_bnd (Lft_pI ⟨by decide, by decide⟩ (fun F => ⟨by simp [fds, u3], by simp [fds]⟩)) (fun _ _ _ => ?_)
  refine Lft_bnd (Lft_vc (Lf_f_X6_isBox x1)) (fun v7 z9 e9 => ?_)
  subst e9
  refine Lft_if (fun _ => ?_) (fun _ => ?_)
  · refine Lft_bnd (Lft_vc (Lf_f_X6_fail)) (fun v14 z9 e9 => ?_)
    subst e9
    exact Lft_rt rfl
  · refine Lft_bnd (Lft_vc (Lf_f_X6_isGone x1)) (fun v20 z9 e9 => ?_)
    subst e9
    refine Lft_if (fun _ => ?_) (fun _ => ?_)
    · exact Lft_rt rfl
    · refine Lft_bnd (Lft_vc (Lf_f_X6_wayOf x1)) (fun v30 z9 e9 => ?_)
      subst e9
      refine Lf_X6_where_L36 x1 v30 _ _ ?_ FU (0 : Int32)
      refine Lft_bnd (Lft_gA (a := (adA y 9 23)) (fun F => rfl)) (fun v122 _ e9 => ?_)
      subst e9
      refine Lft_bnd (Lft_ld rfl) (fun v126 z9 e9 => ?_)
      subst e9
      refine Lft_if (fun _ => ?_) (fun _ => ?_)
      · exact Lf_X6_where_b143
      · refine Lft_bnd (Lft_gI (fun F => rfl)) (fun v131 z9 e9 => ?_)
        subst e9
        refine Lft_bnd (Lft_vc (Lf_f_X6_there v30 x1)) (fun v137 z9 e9 => ?_)
        subst e9
        refine Lft_if (fun _ => ?_) (fun _ => ?_)
        · refine Lft_bnd (Lft_gI (fun F => rfl)) (fun v148 z9 e9 => ?_)
          subst e9
          refine Lft_bnd (Lft_vc (Lf_f_X6_arrives x1)) (fun v153 z9 e9 => ?_)
          subst e9
          refine Lft_if (fun _ => ?_) (fun _ => ?_)
          · exact Lf_X6_where_b164 (4 : Int32)
          · exact Lf_X6_where_b164 (3 : Int32)
        · exact Lf_X6_where_b143
def p_X4_hasSameLegs_L15 (x0 : Nat) (x1 : Nat) (kx : PM Int32) : Nat → Int32 → PM Int32
  | 0, _ => pflr
  | n + 1, x2 =>
    pbnd (pgI 5 x0 7) fun v17 =>
    (if (v17 * (3 : Int32)) ≤ x2 then
    kx
    else
    pbnd (pchk 5 x0) fun _ =>
    pbnd (pld 8 x0 x2) fun v30 =>
    pbnd (pchk 5 x1) fun _ =>
    pbnd (pld 8 x1 x2) fun v36 =>
    (if v30 = v36 then
    p_X4_hasSameLegs_L15 x0 x1 kx n (x2 + 1)
    else
    prtZ (0 : Int32)))
set_option maxRecDepth 20000 in
theorem Lf_X4_hasSameLegs_L15 {y : LY} {t0 mi : Nat} (x0 : Nat) (x1 : Nat) (kx : Mo Int32) (pkx : PM Int32) (hkx : Lft y Eq kx pkx) : ∀ (n : Nat) (x2 : Int32), Lft y Eq (X4_hasSameLegs_L15 t0 mi (adO y 5 x0) (adO y 5 x1) kx n x2) (p_X4_hasSameLegs_L15 x0 x1 pkx n x2) := by
  intro n
  induction n with
  | zero => intro x2; rw [p_X4_hasSameLegs_L15]; exact Lft_flr
  | succ n ih =>
    intro x2; rw [X4_hasSameLegs_L15, p_X4_hasSameLegs_L15]
    refine Lft_bnd (Lft_gI (fun F => rfl)) (fun v17 z9 e9 => ?_)
    subst e9
    refine Lft_if (fun _ => ?_) (fun _ => ?_)
    · exact hkx
    · refine Lft_bnd (Lft_gA (a := (adA y 8 x0)) (fun F => rfl)) (fun v26 _ e9 => ?_)
      subst e9
      refine Lft_bnd (Lft_ld rfl) (fun v30 z9 e9 => ?_)
      subst e9
      refine Lft_bnd (Lft_gA (a := (adA y 8 x1)) (fun F => rfl)) (fun v32 _ e9 => ?_)
      subst e9
      refine Lft_bnd (Lft_ld rfl) (fun v36 z9 e9 => ?_)
      subst e9
      refine Lft_if (fun _ => ?_) (fun _ => ?_)
      · exact ih (x2 + 1)
      · exact Lft_rtZ
def p_X4_hasSameLegs (x0 : Nat) (x1 : Nat) : PM Int32 :=
    pbnd (pgI 5 x0 7) fun v1 =>
    pbnd (pgI 5 x1 7) fun v5 =>
    (if v1 = v5 then
    p_X4_hasSameLegs_L15 x0 x1 (prtZ (1 : Int32)) FU (0 : Int32)
    else
    prtZ (0 : Int32))
set_option maxRecDepth 20000 in
theorem Lf_f_X4_hasSameLegs {y : LY} {t0 mi : Nat} (x0 : Nat) (x1 : Nat) : Lft y Eq (f_X4_hasSameLegs t0 mi (adO y 5 x0) (adO y 5 x1)) (p_X4_hasSameLegs x0 x1) := by
  unfold f_X4_hasSameLegs p_X4_hasSameLegs
  refine Lft_bnd (Lft_gI (fun F => rfl)) (fun v1 z9 e9 => ?_)
  subst e9
  refine Lft_bnd (Lft_gI (fun F => rfl)) (fun v5 z9 e9 => ?_)
  subst e9
  refine Lft_if (fun _ => ?_) (fun _ => ?_)
  · refine Lf_X4_hasSameLegs_L15 x0 x1 _ _ ?_ FU (0 : Int32)
    exact Lft_rtZ
  · exact Lft_rtZ
def p_X5_markOfLikeBox_b60 (kh17 : Int32 → PM Int32) (x1 : Int32) (x2 : Nat) (x3 : Int32) : PM Int32 :=
    kh17 (x3 + 1)
set_option maxRecDepth 20000 in
theorem Lf_X5_markOfLikeBox_b60 {y : LY} {t0 mi : Nat} (x1 : Int32) (x2 : Nat) (x3 : Int32) (kh17 : Int32 → Mo Int32) (pkh17 : Int32 → PM Int32) (hkh17 : ∀ (z0 : Int32), Lft y Eq (kh17 z0) (pkh17 z0)) : Lft y Eq (X5_markOfLikeBox_b60 t0 mi kh17 (adO y 6 0) x1 (adO y 5 x2) x3) (p_X5_markOfLikeBox_b60 pkh17 x1 x2 x3) := by
  unfold X5_markOfLikeBox_b60 p_X5_markOfLikeBox_b60
  exact hkh17 (x3 + 1)
def p_X5_markOfLikeBox_L17 (x1 : Int32) (x2 : Nat) (kx : PM Int32) : Nat → Int32 → PM Int32
  | 0, _ => pflr
  | n + 1, x3 =>
    (if x1 ≤ x3 then
    kx
    else
    pbnd (pchk 6 0) fun _ =>
    pbnd (pld 2 0 x3) fun v27 =>
    (if v27 = (-1 : Int32) then
    p_X5_markOfLikeBox_b60 (p_X5_markOfLikeBox_L17 x1 x2 kx n) x1 x2 x3
    else
    pbnd (pchk 6 0) fun _ =>
    pbnd (pbnd (pchk 0 1) fun _ => pget 1 x3) fun _ =>
    pbnd (pchk 1 x3.toNatClampNeg) fun _ =>
    pbnd (pchk 1 x3.toNatClampNeg) fun _ =>
    pbnd (pbnd (pchk 5 (2 * x3.toNatClampNeg)) fun _ => p_X4_hasSameLegs (2 * x3.toNatClampNeg) x2) fun v47 =>
    (if v47 = 0 then
    p_X5_markOfLikeBox_b60 (p_X5_markOfLikeBox_L17 x1 x2 kx n) x1 x2 x3
    else
    pbnd (pchk 6 0) fun _ =>
    pbnd (pld 2 0 x3) fun v58 =>
    prt v58)))
set_option maxRecDepth 20000 in
theorem Lf_X5_markOfLikeBox_L17 {y : LY} {t0 mi : Nat} (x1 : Int32) (x2 : Nat) (kx : Mo Int32) (pkx : PM Int32) (hkx : Lft y Eq kx pkx) : ∀ (n : Nat) (x3 : Int32), Lft y Eq (X5_markOfLikeBox_L17 t0 mi (adO y 6 0) x1 (adO y 5 x2) kx n x3) (p_X5_markOfLikeBox_L17 x1 x2 pkx n x3) := by
  intro n
  induction n with
  | zero => intro x3; rw [p_X5_markOfLikeBox_L17]; exact Lft_flr
  | succ n ih =>
    intro x3; rw [X5_markOfLikeBox_L17, p_X5_markOfLikeBox_L17]
    refine Lft_if (fun _ => ?_) (fun _ => ?_)
    · exact hkx
    · refine Lft_bnd (Lft_gA (a := (adA y 2 0)) (fun F => rfl)) (fun v23 _ e9 => ?_)
      subst e9
      refine Lft_bnd (Lft_ld rfl) (fun v27 z9 e9 => ?_)
      subst e9
      refine Lft_if (fun _ => ?_) (fun _ => ?_)
      · exact Lf_X5_markOfLikeBox_b60 x1 x2 x3 _ _ ih
      · refine Lft_bnd (Lft_gA (a := (adO y 0 1)) (fun F => rfl)) (fun v33 _ e9 => ?_)
        subst e9
        refine Lft_bnd (Lft_vc (Lft_get1)) (fun v37 _ e9 => ?_)
        subst e9
        refine Lft_bnd (Lft_isC) (fun _ _ _ => ?_)
        refine Lft_bnd (Lft_gA (a := (adO y 5 (2 * x3.toNatClampNeg))) (fun F => rfl)) (fun v43 _ e9 => ?_)
        subst e9
        refine Lft_bnd (Lft_vc (Lf_f_X4_hasSameLegs (2 * x3.toNatClampNeg) x2)) (fun v47 z9 e9 => ?_)
        subst e9
        refine Lft_if (fun _ => ?_) (fun _ => ?_)
        · exact Lf_X5_markOfLikeBox_b60 x1 x2 x3 _ _ ih
        · refine Lft_bnd (Lft_gA (a := (adA y 2 0)) (fun F => rfl)) (fun v54 _ e9 => ?_)
          subst e9
          refine Lft_bnd (Lft_ld rfl) (fun v58 z9 e9 => ?_)
          subst e9
          exact Lft_rt rfl
def p_X5_markOfLikeBox (x1 : Int32) : PM Int32 :=
    pbnd (pchk 6 0) fun _ =>
    pbnd (pbnd (pchk 0 1) fun _ => pget 1 x1) fun _ =>
    pbnd (pchk 1 x1.toNatClampNeg) fun _ =>
    pbnd (pchk 1 x1.toNatClampNeg) fun _ =>
    p_X5_markOfLikeBox_L17 x1 (2 * x1.toNatClampNeg) (prt (-1 : Int32)) FU (0 : Int32)
set_option maxRecDepth 20000 in
theorem Lf_f_X5_markOfLikeBox {y : LY} {t0 mi : Nat} (x1 : Int32) : Lft y Eq (f_X5_markOfLikeBox t0 mi (adO y 6 0) x1) (p_X5_markOfLikeBox x1) := by
  unfold f_X5_markOfLikeBox p_X5_markOfLikeBox
  refine Lft_bnd (Lft_gA (a := (adO y 0 1)) (fun F => rfl)) (fun v1 _ e9 => ?_)
  subst e9
  refine Lft_bnd (Lft_vc (Lft_get1)) (fun v5 _ e9 => ?_)
  subst e9
  refine Lft_bnd (Lft_isC) (fun _ _ _ => ?_)
  refine Lft_bnd (Lft_gA (a := (adO y 5 (2 * x1.toNatClampNeg))) (fun F => rfl)) (fun v11 _ e9 => ?_)
  subst e9
  refine Lf_X5_markOfLikeBox_L17 x1 (2 * x1.toNatClampNeg) _ _ ?_ FU (0 : Int32)
  exact Lft_rt rfl
def p_X5_numberMarks_b82 (kh4 : Int32 → Int32 → PM Int32) (x1 : Int32) (x2 : Int32) : PM Int32 :=
    kh4 x1 (x2 + 1)
set_option maxRecDepth 20000 in
theorem Lf_X5_numberMarks_b82 {y : LY} {t0 mi : Nat} (x1 : Int32) (x2 : Int32) (kh4 : Int32 → Int32 → Mo Int32) (pkh4 : Int32 → Int32 → PM Int32) (hkh4 : ∀ (z0 : Int32) (z1 : Int32), Lft y Eq (kh4 z0 z1) (pkh4 z0 z1)) : Lft y Eq (X5_numberMarks_b82 t0 mi kh4 (adO y 6 0) x1 x2) (p_X5_numberMarks_b82 pkh4 x1 x2) := by
  unfold X5_numberMarks_b82 p_X5_numberMarks_b82
  exact hkh4 x1 (x2 + 1)
def p_X5_numberMarks_L4 (kx : Int32 → PM Int32) : Nat → Int32 → Int32 → PM Int32
  | 0, _, _ => pflr
  | n + 1, x1, x2 =>
    pbnd (pchk 6 0) fun _ =>
    pbnd (pbnd (pchk 0 1) fun _ => psiz 1) fun v9 =>
    (if v9 ≤ x2 then
    kx x1
    else
    pbnd (pchk 6 0) fun _ =>
    pbnd (plen 2 0) fun v20 =>
    (if v20 ≤ x2 then
    kx x1
    else
    pbnd (pchk 6 0) fun _ =>
    pbnd (pst 2 0 x2 (-1 : Int32)) fun _ =>
    pbnd (pchk 6 0) fun _ =>
    pbnd (pbnd (pchk 0 1) fun _ => pget 1 x2) fun _ =>
    pbnd (pchk 1 x2.toNatClampNeg) fun _ =>
    pbnd (pchk 1 x2.toNatClampNeg) fun _ =>
    pbnd (pbnd (pchk 5 (2 * x2.toNatClampNeg)) fun _ => p_X4_hasWay (2 * x2.toNatClampNeg)) fun v45 =>
    (if v45 = 0 then
    p_X5_numberMarks_b82 (p_X5_numberMarks_L4 kx n) x1 x2
    else
    pbnd (pchk 6 0) fun _ =>
    pbnd (pbnd (pchk 6 0) fun _ => p_X5_markOfLikeBox x2) fun v58 =>
    pbnd (pst 2 0 x2 v58) fun _ =>
    pbnd (pchk 6 0) fun _ =>
    pbnd (pld 2 0 x2) fun v67 =>
    (if v67 = (-1 : Int32) then
    pbnd (pchk 6 0) fun _ =>
    pbnd (pst 2 0 x2 x1) fun _ =>
    p_X5_numberMarks_b82 (p_X5_numberMarks_L4 kx n) (x1 + 1) x2
    else
    p_X5_numberMarks_b82 (p_X5_numberMarks_L4 kx n) x1 x2))))
set_option maxRecDepth 20000 in
theorem Lf_X5_numberMarks_L4 {y : LY} {t0 mi : Nat} (kx : Int32 → Mo Int32) (pkx : Int32 → PM Int32) (hkx : ∀ (z0 : Int32), Lft y Eq (kx z0) (pkx z0)) : ∀ (n : Nat) (x1 : Int32) (x2 : Int32), Lft y Eq (X5_numberMarks_L4 t0 mi (adO y 6 0) kx n x1 x2) (p_X5_numberMarks_L4 pkx n x1 x2) := by
  intro n
  induction n with
  | zero => intro x1 x2; rw [p_X5_numberMarks_L4]; exact Lft_flr
  | succ n ih =>
    intro x1 x2; rw [X5_numberMarks_L4, p_X5_numberMarks_L4]
    refine Lft_bnd (Lft_gA (a := (adO y 0 1)) (fun F => rfl)) (fun v6 _ e9 => ?_)
    subst e9
    refine Lft_bnd (Lft_vc (Lft_siz (by decide))) (fun v9 z9 e9 => ?_)
    subst e9
    refine Lft_if (fun _ => ?_) (fun _ => ?_)
    · exact hkx x1
    · refine Lft_bnd (Lft_gA (a := (adA y 2 0)) (fun F => rfl)) (fun v17 _ e9 => ?_)
      subst e9
      refine Lft_bnd (Lft_len) (fun v20 z9 e9 => ?_)
      subst e9
      refine Lft_if (fun _ => ?_) (fun _ => ?_)
      · exact hkx x1
      · refine Lft_bnd (Lft_gA (a := (adA y 2 0)) (fun F => rfl)) (fun v25 _ e9 => ?_)
        subst e9
        refine Lft_bnd (Lft_st rfl) (fun _ _ _ => ?_)
        refine Lft_bnd (Lft_gA (a := (adO y 0 1)) (fun F => rfl)) (fun v32 _ e9 => ?_)
        subst e9
        refine Lft_bnd (Lft_vc (Lft_get1)) (fun v36 _ e9 => ?_)
        subst e9
        refine Lft_bnd (Lft_isC) (fun _ _ _ => ?_)
        refine Lft_bnd (Lft_gA (a := (adO y 5 (2 * x2.toNatClampNeg))) (fun F => rfl)) (fun v42 _ e9 => ?_)
        subst e9
        refine Lft_bnd (Lft_vc (Lf_f_X4_hasWay (2 * x2.toNatClampNeg))) (fun v45 z9 e9 => ?_)
        subst e9
        refine Lft_if (fun _ => ?_) (fun _ => ?_)
        · exact Lf_X5_numberMarks_b82 x1 x2 _ _ ih
        · refine Lft_bnd (Lft_gA (a := (adA y 2 0)) (fun F => rfl)) (fun v52 _ e9 => ?_)
          subst e9
          refine Lft_bnd (Lft_vc (Lf_f_X5_markOfLikeBox x2)) (fun v58 z9 e9 => ?_)
          subst e9
          refine Lft_bnd (Lft_st rfl) (fun _ _ _ => ?_)
          refine Lft_bnd (Lft_gA (a := (adA y 2 0)) (fun F => rfl)) (fun v63 _ e9 => ?_)
          subst e9
          refine Lft_bnd (Lft_ld rfl) (fun v67 z9 e9 => ?_)
          subst e9
          refine Lft_if (fun _ => ?_) (fun _ => ?_)
          · refine Lft_bnd (Lft_gA (a := (adA y 2 0)) (fun F => rfl)) (fun v73 _ e9 => ?_)
            subst e9
            refine Lft_bnd (Lft_st rfl) (fun _ _ _ => ?_)
            exact Lf_X5_numberMarks_b82 (x1 + 1) x2 _ _ ih
          · exact Lf_X5_numberMarks_b82 x1 x2 _ _ ih
def p_X5_numberMarks : PM Int32 :=
    p_X5_numberMarks_L4 (fun y1_1 =>
    prt y1_1) FU (0 : Int32) (0 : Int32)
set_option maxRecDepth 20000 in
theorem Lf_f_X5_numberMarks {y : LY} {t0 mi : Nat} : Lft y Eq (f_X5_numberMarks t0 mi (adO y 6 0)) (p_X5_numberMarks) := by
  unfold f_X5_numberMarks p_X5_numberMarks
  refine Lf_X5_numberMarks_L4 _ _ (fun y1_1 => ?_) FU (0 : Int32) (0 : Int32)
  exact Lft_rt rfl
def p_X5_mark (x1 : Int32) : PM Int32 :=
    pbnd (pbnd (pchk 6 0) fun _ => p_X5_boxOf x1) fun v2 =>
    pbnd (pbnd (pchk 6 0) fun _ => p_X5_numberMarks) fun v7 =>
    pbnd (pchk 6 0) fun _ =>
    pbnd (pld 2 0 x1) fun v16 =>
    prt v16
set_option maxRecDepth 20000 in
theorem Lf_f_X5_mark {y : LY} {t0 mi : Nat} (x1 : Int32) : Lft y Eq (f_X5_mark t0 mi (adO y 6 0) x1) (p_X5_mark x1) := by
  unfold f_X5_mark p_X5_mark
  refine Lft_bnd (Lft_vc (Lf_f_X5_boxOf x1)) (fun x9 v2 e9 => ?_)
  subst e9
  refine Lft_bnd (Lft_vc (Lf_f_X5_numberMarks)) (fun v7 z9 e9 => ?_)
  subst e9
  refine Lft_bnd (Lft_gA (a := (adA y 2 0)) (fun F => rfl)) (fun v12 _ e9 => ?_)
  subst e9
  refine Lft_bnd (Lft_ld rfl) (fun v16 z9 e9 => ?_)
  subst e9
  exact Lft_rt rfl
def p_L_mark (x1 : Int32) : PM Int32 :=
    pctc (pbnd (pchk 6 0) fun _ => p_X5_mark x1) (fun v4 =>
    pbnd (pstO (0 : Int32) v4.toInt64) fun _ =>
    prt (0 : Int32)) (fun E =>
    (if E = "java/util/NoSuchElementException" then
    prt (1 : Int32)
    else
    pflr))
set_option maxRecDepth 20000 in
theorem Lf_f_L_mark {y : LY} {t0 mi : Nat} (x1 : Int32) : Lft y Eq (f_L_mark t0 mi (adO y 6 0) x1 (yB y + 45)) (p_L_mark x1) := by
  unfold f_L_mark p_L_mark
  refine Lft_ctc (Lft_vc (Lf_f_X5_mark x1)) (fun v4 z9 e9 => ?_) (fun E => ?_)
  · subst e9
    refine Lft_bnd (Lft_stO) (fun _ _ _ => ?_)
    exact Lft_rt rfl
  · refine Lft_if (fun _ => ?_) (fun _ => ?_)
    · exact Lft_rt rfl
    · exact Lft_flr
def p_X6_isAlike_b121 (kh28 : Int32 → Int32 → PM Int32) (x1 : Int32) (x2 : Int32) (x4 : Int32) (s0 : Int32) : PM Int32 :=
    kh28 s0 (x4 + 1)
set_option maxRecDepth 20000 in
theorem Lf_X6_isAlike_b121 {y : LY} {t0 mi : Nat} (x1 : Int32) (x2 : Int32) (x4 : Int32) (s0 : Int32) (kh28 : Int32 → Int32 → Mo Int32) (pkh28 : Int32 → Int32 → PM Int32) (hkh28 : ∀ (z0 : Int32) (z1 : Int32), Lft y Eq (kh28 z0 z1) (pkh28 z0 z1)) : Lft y Eq (X6_isAlike_b121 t0 mi kh28 (adO y 7 0) x1 x2 x4 s0) (p_X6_isAlike_b121 pkh28 x1 x2 x4 s0) := by
  unfold X6_isAlike_b121 p_X6_isAlike_b121
  exact hkh28 s0 (x4 + 1)
def p_X6_isAlike_b120 (kh28 : Int32 → Int32 → PM Int32) (x1 : Int32) (x2 : Int32) (x4 : Int32) : PM Int32 :=
    p_X6_isAlike_b121 kh28 x1 x2 x4 (0 : Int32)
set_option maxRecDepth 20000 in
theorem Lf_X6_isAlike_b120 {y : LY} {t0 mi : Nat} (x1 : Int32) (x2 : Int32) (x4 : Int32) (kh28 : Int32 → Int32 → Mo Int32) (pkh28 : Int32 → Int32 → PM Int32) (hkh28 : ∀ (z0 : Int32) (z1 : Int32), Lft y Eq (kh28 z0 z1) (pkh28 z0 z1)) : Lft y Eq (X6_isAlike_b120 t0 mi kh28 (adO y 7 0) x1 x2 x4) (p_X6_isAlike_b120 pkh28 x1 x2 x4) := by
  unfold X6_isAlike_b120 p_X6_isAlike_b120
  exact Lf_X6_isAlike_b121 x1 x2 x4 (0 : Int32) _ _ hkh28
def p_X6_isAlike_L28 (x1 : Int32) (x2 : Int32) (kx : Int32 → PM Int32) : Nat → Int32 → Int32 → PM Int32
  | 0, _, _ => pflr
  | n + 1, x3, x4 =>
    (if x3 = 0 then
    kx x3
    else
    pbnd (pchk 7 0) fun _ =>
    pbnd (pld 9 24 ((2 : Int32) * x1)) fun v41 =>
    (if v41 ≤ x4 then
    kx x3
    else
    pbnd (p_X6_legAt ((2 : Int32) * x1) x4) fun v50 =>
    pbnd (p_X6_legAt ((2 : Int32) * x2) x4) fun v60 =>
    pbnd (pchk 7 0) fun _ =>
    pbnd (pld 9 27 v50) fun v71 =>
    pbnd (pchk 7 0) fun _ =>
    pbnd (pld 9 27 v60) fun v78 =>
    (if v71 = v78 then
    pbnd (pchk 7 0) fun _ =>
    pbnd (pld 9 28 v50) fun v88 =>
    pbnd (pchk 7 0) fun _ =>
    pbnd (pld 9 28 v60) fun v95 =>
    (if v88 = v95 then
    pbnd (pchk 7 0) fun _ =>
    pbnd (pld 9 29 v50) fun v105 =>
    pbnd (pchk 7 0) fun _ =>
    pbnd (pld 9 29 v60) fun v112 =>
    (if v105 = v112 then
    p_X6_isAlike_b121 (p_X6_isAlike_L28 x1 x2 kx n) x1 x2 x4 (1 : Int32)
    else
    p_X6_isAlike_b120 (p_X6_isAlike_L28 x1 x2 kx n) x1 x2 x4)
    else
    p_X6_isAlike_b120 (p_X6_isAlike_L28 x1 x2 kx n) x1 x2 x4)
    else
    p_X6_isAlike_b120 (p_X6_isAlike_L28 x1 x2 kx n) x1 x2 x4)))
set_option maxRecDepth 20000 in
theorem Lf_X6_isAlike_L28 {y : LY} {t0 mi : Nat} (x1 : Int32) (x2 : Int32) (kx : Int32 → Mo Int32) (pkx : Int32 → PM Int32) (hkx : ∀ (z0 : Int32), Lft y Eq (kx z0) (pkx z0)) : ∀ (n : Nat) (x3 : Int32) (x4 : Int32), Lft y Eq (X6_isAlike_L28 t0 mi (adO y 7 0) x1 x2 kx n x3 x4) (p_X6_isAlike_L28 x1 x2 pkx n x3 x4) := by
  intro n
  induction n with
  | zero => intro x3 x4; rw [p_X6_isAlike_L28]; exact Lft_flr
  | succ n ih =>
    intro x3 x4; rw [X6_isAlike_L28, p_X6_isAlike_L28]
    refine Lft_if (fun _ => ?_) (fun _ => ?_)
    · exact hkx x3
    · refine Lft_bnd (Lft_gA (a := (adA y 9 24)) (fun F => rfl)) (fun v35 _ e9 => ?_)
      subst e9
      refine Lft_bnd (Lft_ld rfl) (fun v41 z9 e9 => ?_)
      subst e9
      refine Lft_if (fun _ => ?_) (fun _ => ?_)
      · exact hkx x3
      · refine Lft_bnd (Lf_f_X6_legAt ((2 : Int32) * x1) x4) (fun v50 z9 e9 => ?_)
        subst e9
        refine Lft_bnd (Lf_f_X6_legAt ((2 : Int32) * x2) x4) (fun v60 z9 e9 => ?_)
        subst e9
        refine Lft_bnd (Lft_gA (a := (adA y 9 27)) (fun F => rfl)) (fun v66 _ e9 => ?_)
        subst e9
        refine Lft_bnd (Lft_ld rfl) (fun v71 z9 e9 => ?_)
        subst e9
        refine Lft_bnd (Lft_gA (a := (adA y 9 27)) (fun F => rfl)) (fun v73 _ e9 => ?_)
        subst e9
        refine Lft_bnd (Lft_ld rfl) (fun v78 z9 e9 => ?_)
        subst e9
        refine Lft_if (fun _ => ?_) (fun _ => ?_)
        · refine Lft_bnd (Lft_gA (a := (adA y 9 28)) (fun F => rfl)) (fun v83 _ e9 => ?_)
          subst e9
          refine Lft_bnd (Lft_ld rfl) (fun v88 z9 e9 => ?_)
          subst e9
          refine Lft_bnd (Lft_gA (a := (adA y 9 28)) (fun F => rfl)) (fun v90 _ e9 => ?_)
          subst e9
          refine Lft_bnd (Lft_ld rfl) (fun v95 z9 e9 => ?_)
          subst e9
          refine Lft_if (fun _ => ?_) (fun _ => ?_)
          · refine Lft_bnd (Lft_gA (a := (adA y 9 29)) (fun F => rfl)) (fun v100 _ e9 => ?_)
            subst e9
            refine Lft_bnd (Lft_ld rfl) (fun v105 z9 e9 => ?_)
            subst e9
            refine Lft_bnd (Lft_gA (a := (adA y 9 29)) (fun F => rfl)) (fun v107 _ e9 => ?_)
            subst e9
            refine Lft_bnd (Lft_ld rfl) (fun v112 z9 e9 => ?_)
            subst e9
            refine Lft_if (fun _ => ?_) (fun _ => ?_)
            · exact Lf_X6_isAlike_b121 x1 x2 x4 (1 : Int32) _ _ ih
            · exact Lf_X6_isAlike_b120 x1 x2 x4 _ _ ih
          · exact Lf_X6_isAlike_b120 x1 x2 x4 _ _ ih
        · exact Lf_X6_isAlike_b120 x1 x2 x4 _ _ ih
def p_X6_isAlike_b24 (x1 : Int32) (x2 : Int32) (s0 : Int32) : PM Int32 :=
    p_X6_isAlike_L28 x1 x2 (fun y1_3 =>
    prtZ y1_3) FU s0 (0 : Int32)
set_option maxRecDepth 20000 in
theorem Lf_X6_isAlike_b24 {y : LY} {t0 mi : Nat} (x1 : Int32) (x2 : Int32) (s0 : Int32) : Lft y Eq (X6_isAlike_b24 t0 mi (adO y 7 0) x1 x2 s0) (p_X6_isAlike_b24 x1 x2 s0) := by
  unfold X6_isAlike_b24 p_X6_isAlike_b24
  refine Lf_X6_isAlike_L28 x1 x2 _ _ (fun y1_3 => ?_) FU s0 (0 : Int32)
  exact Lft_rtZ
def p_X6_isAlike (x1 : Int32) (x2 : Int32) : PM Int32 :=
    pbnd (pchk 7 0) fun _ =>
    pbnd (pld 9 24 ((2 : Int32) * x1)) fun v7 =>
    pbnd (pchk 7 0) fun _ =>
    pbnd (pld 9 24 ((2 : Int32) * x2)) fun v15 =>
    (if v7 = v15 then
    p_X6_isAlike_b24 x1 x2 (1 : Int32)
    else
    p_X6_isAlike_b24 x1 x2 (0 : Int32))
set_option maxRecDepth 20000 in
theorem Lf_f_X6_isAlike {y : LY} {t0 mi : Nat} (x1 : Int32) (x2 : Int32) : Lft y Eq (f_X6_isAlike t0 mi (adO y 7 0) x1 x2) (p_X6_isAlike x1 x2) := by
  unfold f_X6_isAlike p_X6_isAlike
  refine Lft_bnd (Lft_gA (a := (adA y 9 24)) (fun F => rfl)) (fun v1 _ e9 => ?_)
  subst e9
  refine Lft_bnd (Lft_ld rfl) (fun v7 z9 e9 => ?_)
  subst e9
  refine Lft_bnd (Lft_gA (a := (adA y 9 24)) (fun F => rfl)) (fun v9 _ e9 => ?_)
  subst e9
  refine Lft_bnd (Lft_ld rfl) (fun v15 z9 e9 => ?_)
  subst e9
  refine Lft_if (fun _ => ?_) (fun _ => ?_)
  · exact Lf_X6_isAlike_b24 x1 x2 (1 : Int32)
  · exact Lf_X6_isAlike_b24 x1 x2 (0 : Int32)
def p_X6_firstLike_b22 (kh2 : Int32 → PM Int32) (x1 : Int32) (x2 : Int32) : PM Int32 :=
    kh2 (x2 + 1)
set_option maxRecDepth 20000 in
theorem Lf_X6_firstLike_b22 {y : LY} {t0 mi : Nat} (x1 : Int32) (x2 : Int32) (kh2 : Int32 → Mo Int32) (pkh2 : Int32 → PM Int32) (hkh2 : ∀ (z0 : Int32), Lft y Eq (kh2 z0) (pkh2 z0)) : Lft y Eq (X6_firstLike_b22 t0 mi kh2 (adO y 7 0) x1 x2) (p_X6_firstLike_b22 pkh2 x1 x2) := by
  unfold X6_firstLike_b22 p_X6_firstLike_b22
  exact hkh2 (x2 + 1)
def p_X6_firstLike_L2 (x1 : Int32) (kx : Int32 → PM Int32) : Nat → Int32 → PM Int32
  | 0, _ => pflr
  | n + 1, x2 =>
    pbnd (pchk 7 0) fun _ =>
    pbnd (pld 9 23 ((2 : Int32) * x2)) fun v9 =>
    (if v9 = 0 then
    p_X6_firstLike_b22 (p_X6_firstLike_L2 x1 kx n) x1 x2
    else
    pbnd (pbnd (pchk 7 0) fun _ => p_X6_isAlike x2 x1) fun v16 =>
    (if v16 = 0 then
    p_X6_firstLike_b22 (p_X6_firstLike_L2 x1 kx n) x1 x2
    else
    kx x2))
set_option maxRecDepth 20000 in
theorem Lf_X6_firstLike_L2 {y : LY} {t0 mi : Nat} (x1 : Int32) (kx : Int32 → Mo Int32) (pkx : Int32 → PM Int32) (hkx : ∀ (z0 : Int32), Lft y Eq (kx z0) (pkx z0)) : ∀ (n : Nat) (x2 : Int32), Lft y Eq (X6_firstLike_L2 t0 mi (adO y 7 0) x1 kx n x2) (p_X6_firstLike_L2 x1 pkx n x2) := by
  intro n
  induction n with
  | zero => intro x2; rw [p_X6_firstLike_L2]; exact Lft_flr
  | succ n ih =>
    intro x2; rw [X6_firstLike_L2, p_X6_firstLike_L2]
    refine Lft_bnd (Lft_gA (a := (adA y 9 23)) (fun F => rfl)) (fun v3 _ e9 => ?_)
    subst e9
    refine Lft_bnd (Lft_ld rfl) (fun v9 z9 e9 => ?_)
    subst e9
    refine Lft_if (fun _ => ?_) (fun _ => ?_)
    · exact Lf_X6_firstLike_b22 x1 x2 _ _ ih
    · refine Lft_bnd (Lft_vc (Lf_f_X6_isAlike x2 x1)) (fun v16 z9 e9 => ?_)
      subst e9
      refine Lft_if (fun _ => ?_) (fun _ => ?_)
      · exact Lf_X6_firstLike_b22 x1 x2 _ _ ih
      · exact hkx x2
def p_X6_firstLike (x1 : Int32) : PM Int32 :=
    p_X6_firstLike_L2 x1 (fun y1_2 =>
    prt y1_2) FU (0 : Int32)
set_option maxRecDepth 20000 in
theorem Lf_f_X6_firstLike {y : LY} {t0 mi : Nat} (x1 : Int32) : Lft y Eq (f_X6_firstLike t0 mi (adO y 7 0) x1) (p_X6_firstLike x1) := by
  unfold f_X6_firstLike p_X6_firstLike
  refine Lf_X6_firstLike_L2 x1 _ _ (fun y1_2 => ?_) FU (0 : Int32)
  exact Lft_rt rfl
def p_X6_marksUpTo_b35 (kh4 : Int32 → Int32 → PM Int32) (x1 : Int32) (x3 : Int32) (s0 : Int32) (s1 : Int32) : PM Int32 :=
    kh4 (s1 + s0) (x3 + 1)
set_option maxRecDepth 20000 in
theorem Lf_X6_marksUpTo_b35 {y : LY} {t0 mi : Nat} (x1 : Int32) (x3 : Int32) (s0 : Int32) (s1 : Int32) (kh4 : Int32 → Int32 → Mo Int32) (pkh4 : Int32 → Int32 → PM Int32) (hkh4 : ∀ (z0 : Int32) (z1 : Int32), Lft y Eq (kh4 z0 z1) (pkh4 z0 z1)) : Lft y Eq (X6_marksUpTo_b35 t0 mi kh4 (adO y 7 0) x1 x3 s0 s1) (p_X6_marksUpTo_b35 pkh4 x1 x3 s0 s1) := by
  unfold X6_marksUpTo_b35 p_X6_marksUpTo_b35
  exact hkh4 (s1 + s0) (x3 + 1)
def p_X6_marksUpTo_b34 (kh4 : Int32 → Int32 → PM Int32) (x1 : Int32) (x3 : Int32) (s0 : Int32) : PM Int32 :=
    p_X6_marksUpTo_b35 kh4 x1 x3 (0 : Int32) s0
set_option maxRecDepth 20000 in
theorem Lf_X6_marksUpTo_b34 {y : LY} {t0 mi : Nat} (x1 : Int32) (x3 : Int32) (s0 : Int32) (kh4 : Int32 → Int32 → Mo Int32) (pkh4 : Int32 → Int32 → PM Int32) (hkh4 : ∀ (z0 : Int32) (z1 : Int32), Lft y Eq (kh4 z0 z1) (pkh4 z0 z1)) : Lft y Eq (X6_marksUpTo_b34 t0 mi kh4 (adO y 7 0) x1 x3 s0) (p_X6_marksUpTo_b34 pkh4 x1 x3 s0) := by
  unfold X6_marksUpTo_b34 p_X6_marksUpTo_b34
  exact Lf_X6_marksUpTo_b35 x1 x3 (0 : Int32) s0 _ _ hkh4
def p_X6_marksUpTo_L4 (x1 : Int32) (kx : Int32 → PM Int32) : Nat → Int32 → Int32 → PM Int32
  | 0, _, _ => pflr
  | n + 1, x2, x3 =>
    (if x1 ≤ x3 then
    kx x2
    else
    pbnd (pchk 7 0) fun _ =>
    pbnd (pld 9 23 ((2 : Int32) * x3)) fun v17 =>
    (if v17 = 0 then
    p_X6_marksUpTo_b34 (p_X6_marksUpTo_L4 x1 kx n) x1 x3 x2
    else
    pbnd (pbnd (pchk 7 0) fun _ => p_X6_firstLike x3) fun v23 =>
    (if v23 = x3 then
    p_X6_marksUpTo_b35 (p_X6_marksUpTo_L4 x1 kx n) x1 x3 (1 : Int32) x2
    else
    p_X6_marksUpTo_b34 (p_X6_marksUpTo_L4 x1 kx n) x1 x3 x2)))
set_option maxRecDepth 20000 in
theorem Lf_X6_marksUpTo_L4 {y : LY} {t0 mi : Nat} (x1 : Int32) (kx : Int32 → Mo Int32) (pkx : Int32 → PM Int32) (hkx : ∀ (z0 : Int32), Lft y Eq (kx z0) (pkx z0)) : ∀ (n : Nat) (x2 : Int32) (x3 : Int32), Lft y Eq (X6_marksUpTo_L4 t0 mi (adO y 7 0) x1 kx n x2 x3) (p_X6_marksUpTo_L4 x1 pkx n x2 x3) := by
  intro n
  induction n with
  | zero => intro x2 x3; rw [p_X6_marksUpTo_L4]; exact Lft_flr
  | succ n ih =>
    intro x2 x3; rw [X6_marksUpTo_L4, p_X6_marksUpTo_L4]
    refine Lft_if (fun _ => ?_) (fun _ => ?_)
    · exact hkx x2
    · refine Lft_bnd (Lft_gA (a := (adA y 9 23)) (fun F => rfl)) (fun v11 _ e9 => ?_)
      subst e9
      refine Lft_bnd (Lft_ld rfl) (fun v17 z9 e9 => ?_)
      subst e9
      refine Lft_if (fun _ => ?_) (fun _ => ?_)
      · exact Lf_X6_marksUpTo_b34 x1 x3 x2 _ _ ih
      · refine Lft_bnd (Lft_vc (Lf_f_X6_firstLike x3)) (fun v23 z9 e9 => ?_)
        subst e9
        refine Lft_if (fun _ => ?_) (fun _ => ?_)
        · exact Lf_X6_marksUpTo_b35 x1 x3 (1 : Int32) x2 _ _ ih
        · exact Lf_X6_marksUpTo_b34 x1 x3 x2 _ _ ih
def p_X6_marksUpTo (x1 : Int32) : PM Int32 :=
    p_X6_marksUpTo_L4 x1 (fun y1_2 =>
    prt y1_2) FU (0 : Int32) (0 : Int32)
set_option maxRecDepth 20000 in
theorem Lf_f_X6_marksUpTo {y : LY} {t0 mi : Nat} (x1 : Int32) : Lft y Eq (f_X6_marksUpTo t0 mi (adO y 7 0) x1) (p_X6_marksUpTo x1) := by
  unfold f_X6_marksUpTo p_X6_marksUpTo
  refine Lf_X6_marksUpTo_L4 x1 _ _ (fun y1_2 => ?_) FU (0 : Int32) (0 : Int32)
  exact Lft_rt rfl
def p_X6_mark_b42 (s0 : Int32) : PM Int32 :=
    prt s0
set_option maxRecDepth 20000 in
theorem Lf_X6_mark_b42 {y : LY} {t0 mi : Nat} (s0 : Int32) : Lft y Eq (X6_mark_b42 t0 mi s0) (p_X6_mark_b42 s0) := by
  unfold X6_mark_b42 p_X6_mark_b42
  exact Lft_rt rfl
def p_X6_mark (x1 : Int32) : PM Int32 :=
    pbnd (ppI 7 0 0 (0 : Int32)) fun _ =>
    pbnd (pbnd (pchk 7 0) fun _ => p_X6_isBox x1) fun v7 =>
    (if v7 = 0 then
    pbnd (pbnd (pchk 7 0) fun _ => p_X6_fail) fun v14 =>
    prt v14
    else
    pbnd (pchk 7 0) fun _ =>
    pbnd (pld 9 23 ((2 : Int32) * x1)) fun v25 =>
    (if v25 = 0 then
    p_X6_mark_b42 (-1 : Int32)
    else
    pbnd (pbnd (pchk 7 0) fun _ => p_X6_firstLike x1) fun v32 =>
    pbnd (pbnd (pchk 7 0) fun _ => p_X6_marksUpTo v32) fun v35 =>
    p_X6_mark_b42 v35))
set_option maxRecDepth 20000 in
theorem Lf_f_X6_mark {y : LY} {t0 mi : Nat} (x1 : Int32) : Lft y Eq (f_X6_mark t0 mi (adO y 7 0) x1) (p_X6_mark x1) := by
  unfold f_X6_mark p_X6_mark
  refine Lft_bnd (Lft_pI ⟨by decide, by decide⟩ (fun F => ⟨by simp [fds, u3], by simp [fds]⟩)) (fun _ _ _ => ?_)
  refine Lft_bnd (Lft_vc (Lf_f_X6_isBox x1)) (fun v7 z9 e9 => ?_)
  subst e9
  refine Lft_if (fun _ => ?_) (fun _ => ?_)
  · refine Lft_bnd (Lft_vc (Lf_f_X6_fail)) (fun v14 z9 e9 => ?_)
    subst e9
    exact Lft_rt rfl
  · refine Lft_bnd (Lft_gA (a := (adA y 9 23)) (fun F => rfl)) (fun v19 _ e9 => ?_)
    subst e9
    refine Lft_bnd (Lft_ld rfl) (fun v25 z9 e9 => ?_)
    subst e9
    refine Lft_if (fun _ => ?_) (fun _ => ?_)
    · exact Lf_X6_mark_b42 (-1 : Int32)
    · refine Lft_bnd (Lft_vc (Lf_f_X6_firstLike x1)) (fun v32 z9 e9 => ?_)
      subst e9
      refine Lft_bnd (Lft_vc (Lf_f_X6_marksUpTo v32)) (fun v35 z9 e9 => ?_)
      subst e9
      exact Lf_X6_mark_b42 v35
