def p_X6_sortedAt_b29 (x1 : Int32) (s0 : Int32) (s1 : Int32) : PM Int32 :=
    pbnd (pchk 7 0) fun _ =>
    pbnd (pbnd (pchk 7 0) fun _ => p_X6_fromOf x1) fun v36 =>
    pbnd (pld 9 6 v36) fun v39 =>
    prt ((s1 + s0) + v39)
set_option maxRecDepth 20000 in
theorem Lf_X6_sortedAt_b29 {y : LY} {t0 mi : Nat} (x1 : Int32) (s0 : Int32) (s1 : Int32) : Lft y Eq (X6_sortedAt_b29 t0 mi (adO y 7 0) x1 s0 s1) (p_X6_sortedAt_b29 x1 s0 s1) := by
  unfold X6_sortedAt_b29 p_X6_sortedAt_b29
  refine Lft_bnd (Lft_gA (a := (adA y 9 6)) (fun F => rfl)) (fun v31 _ e9 => ?_)
  subst e9
  refine Lft_bnd (Lft_vc (Lf_f_X6_fromOf x1)) (fun v36 z9 e9 => ?_)
  subst e9
  refine Lft_bnd (Lft_ld rfl) (fun v39 z9 e9 => ?_)
  subst e9
  exact Lft_rt rfl
def p_X6_sortedAt (x1 : Int32) : PM Int32 :=
    pbnd (pbnd (pchk 7 0) fun _ => p_X6_readyOf x1) fun v2 =>
    pbnd (pchk 7 0) fun _ =>
    pbnd (pld 9 21 x1) fun v10 =>
    (if v10 = 0 then
    pbnd (pchk 7 0) fun _ =>
    pbnd (pld 9 15 x1) fun v28 =>
    p_X6_sortedAt_b29 x1 v28 v2
    else
    pbnd (pchk 7 0) fun _ =>
    pbnd (pld 9 18 x1) fun v19 =>
    p_X6_sortedAt_b29 x1 v19 v2)
set_option maxRecDepth 20000 in
theorem Lf_f_X6_sortedAt {y : LY} {t0 mi : Nat} (x1 : Int32) : Lft y Eq (f_X6_sortedAt t0 mi (adO y 7 0) x1) (p_X6_sortedAt x1) := by
  unfold f_X6_sortedAt p_X6_sortedAt
  refine Lft_bnd (Lft_vc (Lf_f_X6_readyOf x1)) (fun v2 z9 e9 => ?_)
  subst e9
  refine Lft_bnd (Lft_gA (a := (adA y 9 21)) (fun F => rfl)) (fun v6 _ e9 => ?_)
  subst e9
  refine Lft_bnd (Lft_ld rfl) (fun v10 z9 e9 => ?_)
  subst e9
  refine Lft_if (fun _ => ?_) (fun _ => ?_)
  · refine Lft_bnd (Lft_gA (a := (adA y 9 15)) (fun F => rfl)) (fun v24 _ e9 => ?_)
    subst e9
    refine Lft_bnd (Lft_ld rfl) (fun v28 z9 e9 => ?_)
    subst e9
    exact Lf_X6_sortedAt_b29 x1 v28 v2
  · refine Lft_bnd (Lft_gA (a := (adA y 9 18)) (fun F => rfl)) (fun v15 _ e9 => ?_)
    subst e9
    refine Lft_bnd (Lft_ld rfl) (fun v19 z9 e9 => ?_)
    subst e9
    exact Lf_X6_sortedAt_b29 x1 v19 v2
def p_X6_plan_b118 (kh9 : Int32 → Int32 → PM Int32) (x1 : Int32) (x2 : Int32) : PM Int32 :=
    kh9 x1 (x2 + 1)
set_option maxRecDepth 20000 in
theorem Lf_X6_plan_b118 {y : LY} {t0 mi : Nat} (x1 : Int32) (x2 : Int32) (kh9 : Int32 → Int32 → Mo Int32) (pkh9 : Int32 → Int32 → PM Int32) (hkh9 : ∀ (z0 : Int32) (z1 : Int32), Lft y Eq (kh9 z0 z1) (pkh9 z0 z1)) : Lft y Eq (X6_plan_b118 t0 mi kh9 (adO y 7 0) x1 x2) (p_X6_plan_b118 pkh9 x1 x2) := by
  unfold X6_plan_b118 p_X6_plan_b118
  exact hkh9 x1 (x2 + 1)
def p_X6_plan_b116 (kh9 : Int32 → Int32 → PM Int32) (x2 : Int32) (s0 : Int32) (s1 : Int32) : PM Int32 :=
    p_X6_plan_b118 kh9 (s1 + s0) x2
set_option maxRecDepth 20000 in
theorem Lf_X6_plan_b116 {y : LY} {t0 mi : Nat} (x2 : Int32) (s0 : Int32) (s1 : Int32) (kh9 : Int32 → Int32 → Mo Int32) (pkh9 : Int32 → Int32 → PM Int32) (hkh9 : ∀ (z0 : Int32) (z1 : Int32), Lft y Eq (kh9 z0 z1) (pkh9 z0 z1)) : Lft y Eq (X6_plan_b116 t0 mi kh9 (adO y 7 0) x2 s0 s1) (p_X6_plan_b116 pkh9 x2 s0 s1) := by
  unfold X6_plan_b116 p_X6_plan_b116
  exact Lf_X6_plan_b118 (s1 + s0) x2 _ _ hkh9
def p_X6_plan_b66 (kh9 : Int32 → Int32 → PM Int32) (x2 : Int32) (s0 : Int32) (s1 : Int32) : PM Int32 :=
    p_X6_plan_b118 kh9 (s1 + s0) x2
set_option maxRecDepth 20000 in
theorem Lf_X6_plan_b66 {y : LY} {t0 mi : Nat} (x2 : Int32) (s0 : Int32) (s1 : Int32) (kh9 : Int32 → Int32 → Mo Int32) (pkh9 : Int32 → Int32 → PM Int32) (hkh9 : ∀ (z0 : Int32) (z1 : Int32), Lft y Eq (kh9 z0 z1) (pkh9 z0 z1)) : Lft y Eq (X6_plan_b66 t0 mi kh9 (adO y 7 0) x2 s0 s1) (p_X6_plan_b66 pkh9 x2 s0 s1) := by
  unfold X6_plan_b66 p_X6_plan_b66
  exact Lf_X6_plan_b118 (s1 + s0) x2 _ _ hkh9
def p_X6_plan_L9 (kx : Int32 → PM Int32) : Nat → Int32 → Int32 → PM Int32
  | 0, _, _ => pflr
  | n + 1, x1, x2 =>
    pbnd (pgI 7 0 4) fun v11 =>
    (if v11 ≤ x2 then
    kx x1
    else
    pbnd (pbnd (pchk 7 0) fun _ => p_X6_wayOf x2) fun v19 =>
    pbnd (pchk 7 0) fun _ =>
    pbnd (pld 9 25 v19) fun v28 =>
    (if v28 = (-1 : Int32) then
    pbnd (pchk 7 0) fun _ =>
    pbnd (pld 9 22 v19) fun v76 =>
    (if v76 = 0 then
    pbnd (pbnd (pchk 7 0) fun _ => p_X6_readyOf x2) fun v82 =>
    pbnd (pgI 7 0 1) fun v86 =>
    (if v82 < v86 then
    p_X6_plan_b118 (p_X6_plan_L9 kx n) x1 x2
    else
    pbnd (pbnd (pchk 7 0) fun _ => p_X6_fromOf x2) fun v97 =>
    pbnd (pbnd (pchk 7 0) fun _ => p_X6_sortedAt x2) fun v102 =>
    pbnd (pbnd (pchk 7 0) fun _ => p_X6_leadOn x2 v97 v102) fun v105 =>
    (if v105 = 0 then
    p_X6_plan_b116 (p_X6_plan_L9 kx n) x2 (0 : Int32) x1
    else
    p_X6_plan_b116 (p_X6_plan_L9 kx n) x2 (1 : Int32) x1))
    else
    p_X6_plan_b118 (p_X6_plan_L9 kx n) x1 x2)
    else
    pbnd (pchk 7 0) fun _ =>
    pbnd (pld 9 25 v19) fun v41 =>
    pbnd (pgI 7 0 1) fun v43 =>
    pbnd (pchk 7 0) fun _ =>
    pbnd (pld 9 26 v19) fun v51 =>
    pbnd (pbnd (pchk 7 0) fun _ => p_X6_leadOn x2 v41 (mx v43 v51)) fun v55 =>
    (if v55 = 0 then
    p_X6_plan_b66 (p_X6_plan_L9 kx n) x2 (0 : Int32) x1
    else
    p_X6_plan_b66 (p_X6_plan_L9 kx n) x2 (1 : Int32) x1)))
set_option maxRecDepth 20000 in
theorem Lf_X6_plan_L9 {y : LY} {t0 mi : Nat} (kx : Int32 → Mo Int32) (pkx : Int32 → PM Int32) (hkx : ∀ (z0 : Int32), Lft y Eq (kx z0) (pkx z0)) : ∀ (n : Nat) (x1 : Int32) (x2 : Int32), Lft y Eq (X6_plan_L9 t0 mi (adO y 7 0) kx n x1 x2) (p_X6_plan_L9 pkx n x1 x2) := by
  intro n
  induction n with
  | zero => intro x1 x2; rw [p_X6_plan_L9]; exact Lft_flr
  | succ n ih =>
    intro x1 x2; rw [X6_plan_L9, p_X6_plan_L9]
    refine Lft_bnd (Lft_gI (fun F => rfl)) (fun v11 z9 e9 => ?_)
    subst e9
    refine Lft_if (fun _ => ?_) (fun _ => ?_)
    · exact hkx x1
    · refine Lft_bnd (Lft_vc (Lf_f_X6_wayOf x2)) (fun v19 z9 e9 => ?_)
      subst e9
      refine Lft_bnd (Lft_gA (a := (adA y 9 25)) (fun F => rfl)) (fun v24 _ e9 => ?_)
      subst e9
      refine Lft_bnd (Lft_ld rfl) (fun v28 z9 e9 => ?_)
      subst e9
      refine Lft_if (fun _ => ?_) (fun _ => ?_)
      · refine Lft_bnd (Lft_gA (a := (adA y 9 22)) (fun F => rfl)) (fun v72 _ e9 => ?_)
        subst e9
        refine Lft_bnd (Lft_ld rfl) (fun v76 z9 e9 => ?_)
        subst e9
        refine Lft_if (fun _ => ?_) (fun _ => ?_)
        · refine Lft_bnd (Lft_vc (Lf_f_X6_readyOf x2)) (fun v82 z9 e9 => ?_)
          subst e9
          refine Lft_bnd (Lft_gI (fun F => rfl)) (fun v86 z9 e9 => ?_)
          subst e9
          refine Lft_if (fun _ => ?_) (fun _ => ?_)
          · exact Lf_X6_plan_b118 x1 x2 _ _ ih
          · refine Lft_bnd (Lft_vc (Lf_f_X6_fromOf x2)) (fun v97 z9 e9 => ?_)
            subst e9
            refine Lft_bnd (Lft_vc (Lf_f_X6_sortedAt x2)) (fun v102 z9 e9 => ?_)
            subst e9
            refine Lft_bnd (Lft_vc (Lf_f_X6_leadOn x2 v97 v102)) (fun v105 z9 e9 => ?_)
            subst e9
            refine Lft_if (fun _ => ?_) (fun _ => ?_)
            · exact Lf_X6_plan_b116 x2 (0 : Int32) x1 _ _ ih
            · exact Lf_X6_plan_b116 x2 (1 : Int32) x1 _ _ ih
        · exact Lf_X6_plan_b118 x1 x2 _ _ ih
      · refine Lft_bnd (Lft_gA (a := (adA y 9 25)) (fun F => rfl)) (fun v37 _ e9 => ?_)
        subst e9
        refine Lft_bnd (Lft_ld rfl) (fun v41 z9 e9 => ?_)
        subst e9
        refine Lft_bnd (Lft_gI (fun F => rfl)) (fun v43 z9 e9 => ?_)
        subst e9
        refine Lft_bnd (Lft_gA (a := (adA y 9 26)) (fun F => rfl)) (fun v47 _ e9 => ?_)
        subst e9
        refine Lft_bnd (Lft_ld rfl) (fun v51 z9 e9 => ?_)
        subst e9
        refine Lft_bnd (Lft_vc (Lf_f_X6_leadOn x2 v41 (mx v43 v51))) (fun v55 z9 e9 => ?_)
        subst e9
        refine Lft_if (fun _ => ?_) (fun _ => ?_)
        · exact Lf_X6_plan_b66 x2 (0 : Int32) x1 _ _ ih
        · exact Lf_X6_plan_b66 x2 (1 : Int32) x1 _ _ ih
def p_X6_plan : PM Int32 :=
    pbnd (ppI 7 0 0 (0 : Int32)) fun _ =>
    p_X6_plan_L9 (fun y1_1 =>
    prt y1_1) FU (0 : Int32) (0 : Int32)
set_option maxRecDepth 20000 in
theorem Lf_f_X6_plan {y : LY} {t0 mi : Nat} : Lft y Eq (f_X6_plan t0 mi (adO y 7 0)) (p_X6_plan) := by
  unfold f_X6_plan p_X6_plan
  refine Lft_bnd (Lft_pI ⟨by decide, by decide⟩ (fun F => ⟨by simp [fds, u3], by simp [fds]⟩)) (fun _ _ _ => ?_)
  refine Lf_X6_plan_L9 _ _ (fun y1_1 => ?_) FU (0 : Int32) (0 : Int32)
  exact Lft_rt rfl
def p_X5_minutes_b16 : PM Int32 :=
    pthr "java/lang/IllegalArgumentException"
set_option maxRecDepth 20000 in
theorem Lf_X5_minutes_b16 {y : LY} {t0 mi : Nat} : Lft y Eq (X5_minutes_b16 t0 mi) (p_X5_minutes_b16) := by
  unfold X5_minutes_b16 p_X5_minutes_b16
  exact Lft_thr
def p_X5_minutes (x1 : Int32) : PM Int32 :=
    (if x1 < 0 then
    p_X5_minutes_b16
    else
    pbnd (pgI 6 0 4) fun v9 =>
    (if x1 ≤ ((1439 : Int32) - v9) then
    pbnd (pgI 6 0 4) fun v28 =>
    pbnd (ppI 6 0 4 (v28 + x1)) fun _ =>
    pbnd (pgI 6 0 4) fun v37 =>
    prt v37
    else
    p_X5_minutes_b16))
set_option maxRecDepth 20000 in
theorem Lf_f_X5_minutes {y : LY} {t0 mi : Nat} (x1 : Int32) : Lft y Eq (f_X5_minutes t0 mi (adO y 6 0) x1) (p_X5_minutes x1) := by
  unfold f_X5_minutes p_X5_minutes
  refine Lft_if (fun _ => ?_) (fun _ => ?_)
  · exact Lf_X5_minutes_b16
  · refine Lft_bnd (Lft_gI (fun F => rfl)) (fun v9 z9 e9 => ?_)
    subst e9
    refine Lft_if (fun _ => ?_) (fun _ => ?_)
    · refine Lft_bnd (Lft_gI (fun F => rfl)) (fun v28 z9 e9 => ?_)
      subst e9
      refine Lft_bnd (Lft_pI ⟨by decide, by decide⟩ (fun F => ⟨by simp [fds, u3], by simp [fds]⟩)) (fun _ _ _ => ?_)
      refine Lft_bnd (Lft_gI (fun F => rfl)) (fun v37 z9 e9 => ?_)
      subst e9
      exact Lft_rt rfl
    · exact Lf_X5_minutes_b16
def p_L_minutes (x1 : Int32) : PM Int32 :=
    pctc (pbnd (pchk 6 0) fun _ => p_X5_minutes x1) (fun v4 =>
    pbnd (pstO (0 : Int32) v4.toInt64) fun _ =>
    prt (0 : Int32)) (fun E =>
    (if E = "java/lang/IllegalArgumentException" then
    prt (1 : Int32)
    else
    pflr))
set_option maxRecDepth 20000 in
theorem Lf_f_L_minutes {y : LY} {t0 mi : Nat} (x1 : Int32) : Lft y Eq (f_L_minutes t0 mi (adO y 6 0) x1 (yB y + 45)) (p_L_minutes x1) := by
  unfold f_L_minutes p_L_minutes
  refine Lft_ctc (Lft_vc (Lf_f_X5_minutes x1)) (fun v4 z9 e9 => ?_) (fun E => ?_)
  · subst e9
    refine Lft_bnd (Lft_stO) (fun _ _ _ => ?_)
    exact Lft_rt rfl
  · refine Lft_if (fun _ => ?_) (fun _ => ?_)
    · exact Lft_rt rfl
    · exact Lft_flr
def p_X6_minutes_b21 : PM Int32 :=
    pbnd (pbnd (pchk 7 0) fun _ => p_X6_fail) fun v22 =>
    prt v22
set_option maxRecDepth 20000 in
theorem Lf_X6_minutes_b21 {y : LY} {t0 mi : Nat} : Lft y Eq (X6_minutes_b21 t0 mi (adO y 7 0)) (p_X6_minutes_b21) := by
  unfold X6_minutes_b21 p_X6_minutes_b21
  refine Lft_bnd (Lft_vc (Lf_f_X6_fail)) (fun v22 z9 e9 => ?_)
  subst e9
  exact Lft_rt rfl
def p_X6_minutes (x1 : Int32) : PM Int32 :=
    pbnd (ppI 7 0 0 (0 : Int32)) fun _ =>
    (if x1 < 0 then
    p_X6_minutes_b21
    else
    pbnd (pgI 7 0 1) fun v14 =>
    (if x1 ≤ ((1439 : Int32) - v14) then
    pbnd (pgI 7 0 1) fun v28 =>
    pbnd (ppI 7 0 1 (v28 + x1)) fun _ =>
    pbnd (pgI 7 0 1) fun v37 =>
    prt v37
    else
    p_X6_minutes_b21))
set_option maxRecDepth 20000 in
theorem Lf_f_X6_minutes {y : LY} {t0 mi : Nat} (x1 : Int32) : Lft y Eq (f_X6_minutes t0 mi (adO y 7 0) x1) (p_X6_minutes x1) := by
  unfold f_X6_minutes p_X6_minutes
  refine Lft_bnd (Lft_pI ⟨by decide, by decide⟩ (fun F => ⟨by simp [fds, u3], by simp [fds]⟩)) (fun _ _ _ => ?_)
  refine Lft_if (fun _ => ?_) (fun _ => ?_)
  · exact Lf_X6_minutes_b21
  · refine Lft_bnd (Lft_gI (fun F => rfl)) (fun v14 z9 e9 => ?_)
    subst e9
    refine Lft_if (fun _ => ?_) (fun _ => ?_)
    · refine Lft_bnd (Lft_gI (fun F => rfl)) (fun v28 z9 e9 => ?_)
      subst e9
      refine Lft_bnd (Lft_pI ⟨by decide, by decide⟩ (fun F => ⟨by simp [fds, u3], by simp [fds]⟩)) (fun _ _ _ => ?_)
      refine Lft_bnd (Lft_gI (fun F => rfl)) (fun v37 z9 e9 => ?_)
      subst e9
      exact Lft_rt rfl
    · exact Lf_X6_minutes_b21
def p_X3_beginsAfter_b22 (s0 : Int32) : PM Int32 :=
    prtZ s0
set_option maxRecDepth 20000 in
theorem Lf_X3_beginsAfter_b22 {y : LY} {t0 mi : Nat} (s0 : Int32) : Lft y Eq (X3_beginsAfter_b22 t0 mi s0) (p_X3_beginsAfter_b22 s0) := by
  unfold X3_beginsAfter_b22 p_X3_beginsAfter_b22
  exact Lft_rtZ
def p_X3_beginsAfter_b21 : PM Int32 :=
    p_X3_beginsAfter_b22 (0 : Int32)
set_option maxRecDepth 20000 in
theorem Lf_X3_beginsAfter_b21 {y : LY} {t0 mi : Nat} : Lft y Eq (X3_beginsAfter_b21 t0 mi) (p_X3_beginsAfter_b21) := by
  unfold X3_beginsAfter_b21 p_X3_beginsAfter_b21
  exact Lf_X3_beginsAfter_b22 (0 : Int32)
def p_X3_beginsAfter (x0 : Nat) (x1 : Int32) : PM Int32 :=
    pbnd (pgI 4 x0 4) fun v1 =>
    (if v1 ≤ 0 then
    p_X3_beginsAfter_b21
    else
    pbnd (pchk 4 x0) fun _ =>
    pbnd (pld 6 x0 (0 : Int32)) fun v12 =>
    (if v12 ≤ x1 then
    p_X3_beginsAfter_b21
    else
    p_X3_beginsAfter_b22 (1 : Int32)))
set_option maxRecDepth 20000 in
theorem Lf_f_X3_beginsAfter {y : LY} {t0 mi : Nat} (x0 : Nat) (x1 : Int32) : Lft y Eq (f_X3_beginsAfter t0 mi (adO y 4 x0) x1) (p_X3_beginsAfter x0 x1) := by
  unfold f_X3_beginsAfter p_X3_beginsAfter
  refine Lft_bnd (Lft_gI (fun F => rfl)) (fun v1 z9 e9 => ?_)
  subst e9
  refine Lft_if (fun _ => ?_) (fun _ => ?_)
  · exact Lf_X3_beginsAfter_b21
  · refine Lft_bnd (Lft_gA (a := (adA y 6 x0)) (fun F => rfl)) (fun v8 _ e9 => ?_)
    subst e9
    refine Lft_bnd (Lft_ld rfl) (fun v12 z9 e9 => ?_)
    subst e9
    refine Lft_if (fun _ => ?_) (fun _ => ?_)
    · exact Lf_X3_beginsAfter_b21
    · exact Lf_X3_beginsAfter_b22 (1 : Int32)
def p_X4_firstLegOn_L2 (x0 : Nat) (x1 : Int32) (kx : PM Int32) : Nat → Int32 → PM Int32
  | 0, _ => pflr
  | n + 1, x2 =>
    pbnd (pgI 5 x0 7) fun v4 =>
    (if v4 ≤ x2 then
    kx
    else
    pbnd (pbnd (pchk 5 x0) fun _ => p_X4_legNumber x0 x2 (0 : Int32)) fun v13 =>
    (if v13 = x1 then
    prt x2
    else
    p_X4_firstLegOn_L2 x0 x1 kx n (x2 + 1)))
set_option maxRecDepth 20000 in
theorem Lf_X4_firstLegOn_L2 {y : LY} {t0 mi : Nat} (x0 : Nat) (x1 : Int32) (kx : Mo Int32) (pkx : PM Int32) (hkx : Lft y Eq kx pkx) : ∀ (n : Nat) (x2 : Int32), Lft y Eq (X4_firstLegOn_L2 t0 mi (adO y 5 x0) x1 kx n x2) (p_X4_firstLegOn_L2 x0 x1 pkx n x2) := by
  intro n
  induction n with
  | zero => intro x2; rw [p_X4_firstLegOn_L2]; exact Lft_flr
  | succ n ih =>
    intro x2; rw [X4_firstLegOn_L2, p_X4_firstLegOn_L2]
    refine Lft_bnd (Lft_gI (fun F => rfl)) (fun v4 z9 e9 => ?_)
    subst e9
    refine Lft_if (fun _ => ?_) (fun _ => ?_)
    · exact hkx
    · refine Lft_bnd (Lft_vc (Lf_f_X4_legNumber x0 x2 (0 : Int32))) (fun v13 z9 e9 => ?_)
      subst e9
      refine Lft_if (fun _ => ?_) (fun _ => ?_)
      · exact Lft_rt rfl
      · exact ih (x2 + 1)
def p_X4_firstLegOn (x0 : Nat) (x1 : Int32) : PM Int32 :=
    p_X4_firstLegOn_L2 x0 x1 (prt (-1 : Int32)) FU (0 : Int32)
set_option maxRecDepth 20000 in
theorem Lf_f_X4_firstLegOn {y : LY} {t0 mi : Nat} (x0 : Nat) (x1 : Int32) : Lft y Eq (f_X4_firstLegOn t0 mi (adO y 5 x0) x1) (p_X4_firstLegOn x0 x1) := by
  unfold f_X4_firstLegOn p_X4_firstLegOn
  refine Lf_X4_firstLegOn_L2 x0 x1 _ _ ?_ FU (0 : Int32)
  exact Lft_rt rfl
def p_X4_standAt (x0 : Nat) (x1 : Int32) (x2 : Int32) : PM Unit :=
    pbnd (ppI 5 x0 9 (-1 : Int32)) fun _ =>
    pbnd (ppI 5 x0 10 x1) fun _ =>
    pbnd (ppI 5 x0 11 x2) fun _ =>
    prt ()
set_option maxRecDepth 20000 in
theorem Lf_f_X4_standAt {y : LY} {t0 mi : Nat} (x0 : Nat) (x1 : Int32) (x2 : Int32) : Lft y (fun (_ : Unit) (_ : Unit) => True) (f_X4_standAt t0 mi (adO y 5 x0) x1 x2) (p_X4_standAt x0 x1 x2) := by
  unfold f_X4_standAt p_X4_standAt
  refine Lft_bnd (Lft_pI ⟨by decide, by decide⟩ (fun F => ⟨by simp [fds, u3], by simp [fds]⟩)) (fun _ _ _ => ?_)
  refine Lft_bnd (Lft_pI ⟨by decide, by decide⟩ (fun F => ⟨by simp [fds, u3], by simp [fds]⟩)) (fun _ _ _ => ?_)
  refine Lft_bnd (Lft_pI ⟨by decide, by decide⟩ (fun F => ⟨by simp [fds, u3], by simp [fds]⟩)) (fun _ _ _ => ?_)
  exact Lft_rt trivial
def p_X2_giveUp_L3 (x1 : Nat) (x2 : Int32) (x3 : Int32) (kx : PM Unit) : Nat → Int32 → PM Unit
  | 0, _ => pflr
  | n + 1, x4 =>
    pbnd (pgI 5 x1 7) fun v6 =>
    (if v6 ≤ x4 then
    kx
    else
    pbnd (pchk 3 0) fun _ =>
    pbnd (pbnd (pchk 5 x1) fun _ => p_X4_legNumber x1 x4 (0 : Int32)) fun v20 =>
    pbnd (pbnd (pchk 0 0) fun _ => pget 0 v20) fun _ =>
    pbnd (pchk 4 v20.toNatClampNeg) fun _ =>
    pbnd (pbnd (pchk 5 x1) fun _ => p_X4_legNumber x1 x4 (1 : Int32)) fun v37 =>
    pbnd (pbnd (pchk 5 x1) fun _ => p_X4_legNumber x1 x4 (2 : Int32)) fun v44 =>
    pbnd (pbnd (pchk 4 v20.toNatClampNeg) fun _ => p_X3_changeLoads v20.toNatClampNeg v37 v44 (-1 : Int32)) fun _ =>
    p_X2_giveUp_L3 x1 x2 x3 kx n (x4 + 1))
set_option maxRecDepth 20000 in
theorem Lf_X2_giveUp_L3 {y : LY} {t0 mi : Nat} (x1 : Nat) (x2 : Int32) (x3 : Int32) (kx : Mo Unit) (pkx : PM Unit) (hkx : Lft y (fun (_ : Unit) (_ : Unit) => True) kx pkx) : ∀ (n : Nat) (x4 : Int32), Lft y (fun (_ : Unit) (_ : Unit) => True) (X2_giveUp_L3 t0 mi (adO y 3 0) (adO y 5 x1) x2 x3 kx n x4) (p_X2_giveUp_L3 x1 x2 x3 pkx n x4) := by
  intro n
  induction n with
  | zero => intro x4; rw [p_X2_giveUp_L3]; exact Lft_flr
  | succ n ih =>
    intro x4; rw [X2_giveUp_L3, p_X2_giveUp_L3]
    refine Lft_bnd (Lft_gI (fun F => rfl)) (fun v6 z9 e9 => ?_)
    subst e9
    refine Lft_if (fun _ => ?_) (fun _ => ?_)
    · exact hkx
    · refine Lft_bnd (Lft_gA (a := (adO y 0 0)) (fun F => rfl)) (fun v13 _ e9 => ?_)
      subst e9
      refine Lft_bnd (Lft_vc (Lf_f_X4_legNumber x1 x4 (0 : Int32))) (fun v20 z9 e9 => ?_)
      subst e9
      refine Lft_bnd (Lft_vc (Lft_get0)) (fun v23 _ e9 => ?_)
      subst e9
      refine Lft_bnd (Lft_isC) (fun _ _ _ => ?_)
      refine Lft_bnd (Lft_vc (Lf_f_X4_legNumber x1 x4 (1 : Int32))) (fun v37 z9 e9 => ?_)
      subst e9
      refine Lft_bnd (Lft_vc (Lf_f_X4_legNumber x1 x4 (2 : Int32))) (fun v44 z9 e9 => ?_)
      subst e9
      refine Lft_bnd (Lft_vc (Lf_f_X3_changeLoads v20.toNatClampNeg v37 v44 (-1 : Int32))) (fun _ _ _ => ?_)
      exact ih (x4 + 1)
def p_X2_giveUp (x1 : Nat) (x2 : Int32) (x3 : Int32) : PM Unit :=
    p_X2_giveUp_L3 x1 x2 x3 (pbnd (ppI 5 x1 7 x2) fun _ =>
    (if x2 = 0 then
    pbnd (pgI 5 x1 0) fun v68 =>
    pbnd (pbnd (pchk 3 0) fun _ => p_X2_beginning x1) fun v73 =>
    pbnd (pbnd (pchk 5 x1) fun _ => p_X4_standAt x1 v68 (mx v73 x3)) fun _ =>
    prt ()
    else
    pbnd (pchk 3 0) fun _ =>
    pbnd (pbnd (pchk 5 x1) fun _ => p_X4_legNumber x1 (x2 - (1 : Int32)) (0 : Int32)) fun v93 =>
    pbnd (pbnd (pchk 0 0) fun _ => pget 0 v93) fun _ =>
    pbnd (pchk 4 v93.toNatClampNeg) fun _ =>
    pbnd (pbnd (pchk 5 x1) fun _ => p_X4_legNumber x1 (x2 - (1 : Int32)) (2 : Int32)) fun v109 =>
    pbnd (pchk 4 v93.toNatClampNeg) fun _ =>
    pbnd (pld 5 v93.toNatClampNeg v109) fun v122 =>
    pbnd (pbnd (pchk 3 0) fun _ => p_X2_sortedAt v93.toNatClampNeg v109) fun v128 =>
    pbnd (pbnd (pchk 5 x1) fun _ => p_X4_standAt x1 v122 (mx v128 x3)) fun _ =>
    prt ())) FU x2
set_option maxRecDepth 20000 in
theorem Lf_f_X2_giveUp {y : LY} {t0 mi : Nat} (x1 : Nat) (x2 : Int32) (x3 : Int32) : Lft y (fun (_ : Unit) (_ : Unit) => True) (f_X2_giveUp t0 mi (adO y 3 0) (adO y 5 x1) x2 x3) (p_X2_giveUp x1 x2 x3) := by
  unfold f_X2_giveUp p_X2_giveUp
  refine Lf_X2_giveUp_L3 x1 x2 x3 _ _ ?_ FU x2
  refine Lft_bnd (Lft_pI ⟨by decide, by decide⟩ (fun F => ⟨by simp [fds, u3], by simp [fds]⟩)) (fun _ _ _ => ?_)
  refine Lft_if (fun _ => ?_) (fun _ => ?_)
  · refine Lft_bnd (Lft_gI (fun F => rfl)) (fun v68 z9 e9 => ?_)
    subst e9
    refine Lft_bnd (Lft_vc (Lf_f_X2_beginning x1)) (fun v73 z9 e9 => ?_)
    subst e9
    refine Lft_bnd (Lft_vc (Lf_f_X4_standAt x1 v68 (mx v73 x3))) (fun _ _ _ => ?_)
    exact Lft_rt trivial
  · refine Lft_bnd (Lft_gA (a := (adO y 0 0)) (fun F => rfl)) (fun v85 _ e9 => ?_)
    subst e9
    refine Lft_bnd (Lft_vc (Lf_f_X4_legNumber x1 (x2 - (1 : Int32)) (0 : Int32))) (fun v93 z9 e9 => ?_)
    subst e9
    refine Lft_bnd (Lft_vc (Lft_get0)) (fun v96 _ e9 => ?_)
    subst e9
    refine Lft_bnd (Lft_isC) (fun _ _ _ => ?_)
    refine Lft_bnd (Lft_vc (Lf_f_X4_legNumber x1 (x2 - (1 : Int32)) (2 : Int32))) (fun v109 z9 e9 => ?_)
    subst e9
    refine Lft_bnd (Lft_gA (a := (adA y 5 v93.toNatClampNeg)) (fun F => rfl)) (fun v117 _ e9 => ?_)
    subst e9
    refine Lft_bnd (Lft_ld rfl) (fun v122 z9 e9 => ?_)
    subst e9
    refine Lft_bnd (Lft_vc (Lf_f_X2_sortedAt v93.toNatClampNeg v109)) (fun v128 z9 e9 => ?_)
    subst e9
    refine Lft_bnd (Lft_vc (Lf_f_X4_standAt x1 v122 (mx v128 x3))) (fun _ _ _ => ?_)
    exact Lft_rt trivial
def p_X5_takeOffAll_b81 (kh4 : Int32 → Int32 → PM Int32) (x1 : Int32) (x2 : Int32) (x3 : Int32) : PM Int32 :=
    kh4 x2 (x3 + 1)
set_option maxRecDepth 20000 in
theorem Lf_X5_takeOffAll_b81 {y : LY} {t0 mi : Nat} (x1 : Int32) (x2 : Int32) (x3 : Int32) (kh4 : Int32 → Int32 → Mo Int32) (pkh4 : Int32 → Int32 → PM Int32) (hkh4 : ∀ (z0 : Int32) (z1 : Int32), Lft y Eq (kh4 z0 z1) (pkh4 z0 z1)) : Lft y Eq (X5_takeOffAll_b81 t0 mi kh4 (adO y 6 0) x1 x2 x3) (p_X5_takeOffAll_b81 pkh4 x1 x2 x3) := by
  unfold X5_takeOffAll_b81 p_X5_takeOffAll_b81
  exact hkh4 x2 (x3 + 1)
def p_X5_takeOffAll_b52 (kh4 : Int32 → Int32 → PM Int32) (x1 : Int32) (x2 : Int32) (x3 : Int32) (x4 : Nat) (x5 : Int32) (s0 : Int32) (s1 : Nat) : PM Int32 :=
    pbnd (ppZ 5 s1 12 s0) fun _ =>
    pbnd (pgI 5 x4 12) fun v57 =>
    (if v57 = 0 then
    p_X5_takeOffAll_b81 kh4 x1 x2 x3
    else
    pbnd (pchk 6 0) fun _ =>
    pbnd (pgI 6 0 4) fun v72 =>
    pbnd (pbnd (pchk 3 0) fun _ => p_X2_giveUp x4 x5 v72) fun _ =>
    p_X5_takeOffAll_b81 kh4 x1 (x2 + 1) x3)
set_option maxRecDepth 20000 in
theorem Lf_X5_takeOffAll_b52 {y : LY} {t0 mi : Nat} (x1 : Int32) (x2 : Int32) (x3 : Int32) (x4 : Nat) (x5 : Int32) (s0 : Int32) (s1 : Nat) (kh4 : Int32 → Int32 → Mo Int32) (pkh4 : Int32 → Int32 → PM Int32) (hkh4 : ∀ (z0 : Int32) (z1 : Int32), Lft y Eq (kh4 z0 z1) (pkh4 z0 z1)) : Lft y Eq (X5_takeOffAll_b52 t0 mi kh4 (adO y 6 0) x1 x2 x3 (adO y 5 x4) x5 s0 (adO y 5 s1)) (p_X5_takeOffAll_b52 pkh4 x1 x2 x3 x4 x5 s0 s1) := by
  unfold X5_takeOffAll_b52 p_X5_takeOffAll_b52
  refine Lft_bnd (Lft_pZ ⟨by decide, by decide⟩ (fun F => ⟨by simp [fds, u3], by simp [fds]⟩)) (fun _ _ _ => ?_)
  refine Lft_bnd (Lft_gI (fun F => rfl)) (fun v57 z9 e9 => ?_)
  subst e9
  refine Lft_if (fun _ => ?_) (fun _ => ?_)
  · exact Lf_X5_takeOffAll_b81 x1 x2 x3 _ _ hkh4
  · refine Lft_bnd (Lft_gA (a := (adO y 3 0)) (fun F => rfl)) (fun v64 _ e9 => ?_)
    subst e9
    refine Lft_bnd (Lft_gI (fun F => rfl)) (fun v72 z9 e9 => ?_)
    subst e9
    refine Lft_bnd (Lft_vc (Lf_f_X2_giveUp x4 x5 v72)) (fun _ _ _ => ?_)
    exact Lf_X5_takeOffAll_b81 x1 (x2 + 1) x3 _ _ hkh4
def p_X5_takeOffAll_L4 (x1 : Int32) (kx : Int32 → PM Int32) : Nat → Int32 → Int32 → PM Int32
  | 0, _, _ => pflr
  | n + 1, x2, x3 =>
    pbnd (pchk 6 0) fun _ =>
    pbnd (pbnd (pchk 0 1) fun _ => psiz 1) fun v9 =>
    (if v9 ≤ x3 then
    kx x2
    else
    pbnd (pchk 6 0) fun _ =>
    pbnd (pbnd (pchk 0 1) fun _ => pget 1 x3) fun _ =>
    pbnd (pchk 1 x3.toNatClampNeg) fun _ =>
    pbnd (pbnd (pchk 1 x3.toNatClampNeg) fun _ => p_X0_current x3.toNatClampNeg) fun v26 =>
    pbnd (pbnd (pchk 5 v26) fun _ => p_X4_firstLegOn v26 x1) fun v34 =>
    (if v34 = (-1 : Int32) then
    p_X5_takeOffAll_b52 (p_X5_takeOffAll_L4 x1 kx n) x1 x2 x3 v26 v34 (0 : Int32) v26
    else
    p_X5_takeOffAll_b52 (p_X5_takeOffAll_L4 x1 kx n) x1 x2 x3 v26 v34 (1 : Int32) v26))
set_option maxRecDepth 20000 in
theorem Lf_X5_takeOffAll_L4 {y : LY} {t0 mi : Nat} (x1 : Int32) (kx : Int32 → Mo Int32) (pkx : Int32 → PM Int32) (hkx : ∀ (z0 : Int32), Lft y Eq (kx z0) (pkx z0)) : ∀ (n : Nat) (x2 : Int32) (x3 : Int32), Lft y Eq (X5_takeOffAll_L4 t0 mi (adO y 6 0) x1 kx n x2 x3) (p_X5_takeOffAll_L4 x1 pkx n x2 x3) := by
  intro n
  induction n with
  | zero => intro x2 x3; rw [p_X5_takeOffAll_L4]; exact Lft_flr
  | succ n ih =>
    intro x2 x3; rw [X5_takeOffAll_L4, p_X5_takeOffAll_L4]
    refine Lft_bnd (Lft_gA (a := (adO y 0 1)) (fun F => rfl)) (fun v6 _ e9 => ?_)
    subst e9
    refine Lft_bnd (Lft_vc (Lft_siz (by decide))) (fun v9 z9 e9 => ?_)
    subst e9
    refine Lft_if (fun _ => ?_) (fun _ => ?_)
    · exact hkx x2
    · refine Lft_bnd (Lft_gA (a := (adO y 0 1)) (fun F => rfl)) (fun v16 _ e9 => ?_)
      subst e9
      refine Lft_bnd (Lft_vc (Lft_get1)) (fun v20 _ e9 => ?_)
      subst e9
      refine Lft_bnd (Lft_isC) (fun _ _ _ => ?_)
      refine Lft_bnd (Lft_vc (Lf_f_X0_current x3.toNatClampNeg)) (fun x9 v26 e9 => ?_)
      subst e9
      refine Lft_bnd (Lft_vc (Lf_f_X4_firstLegOn v26 x1)) (fun v34 z9 e9 => ?_)
      subst e9
      refine Lft_if (fun _ => ?_) (fun _ => ?_)
      · exact Lf_X5_takeOffAll_b52 x1 x2 x3 v26 v34 (0 : Int32) v26 _ _ ih
      · exact Lf_X5_takeOffAll_b52 x1 x2 x3 v26 v34 (1 : Int32) v26 _ _ ih
def p_X5_takeOffAll (x1 : Int32) : PM Int32 :=
    p_X5_takeOffAll_L4 x1 (fun y1_2 =>
    prt y1_2) FU (0 : Int32) (0 : Int32)
set_option maxRecDepth 20000 in
theorem Lf_f_X5_takeOffAll {y : LY} {t0 mi : Nat} (x1 : Int32) : Lft y Eq (f_X5_takeOffAll t0 mi (adO y 6 0) x1) (p_X5_takeOffAll x1) := by
  unfold f_X5_takeOffAll p_X5_takeOffAll
  refine Lf_X5_takeOffAll_L4 x1 _ _ (fun y1_2 => ?_) FU (0 : Int32) (0 : Int32)
  exact Lft_rt rfl
def p_X5_leadAnew_b52 (kh2 : Int32 → PM Unit) (x1 : Int32) : PM Unit :=
    kh2 (x1 + 1)
set_option maxRecDepth 20000 in
theorem Lf_X5_leadAnew_b52 {y : LY} {t0 mi : Nat} (x1 : Int32) (kh2 : Int32 → Mo Unit) (pkh2 : Int32 → PM Unit) (hkh2 : ∀ (z0 : Int32), Lft y (fun (_ : Unit) (_ : Unit) => True) (kh2 z0) (pkh2 z0)) : Lft y (fun (_ : Unit) (_ : Unit) => True) (X5_leadAnew_b52 t0 mi kh2 (adO y 6 0) x1) (p_X5_leadAnew_b52 pkh2 x1) := by
  unfold X5_leadAnew_b52 p_X5_leadAnew_b52
  exact hkh2 (x1 + 1)
def p_X5_leadAnew_L2 (kx : PM Unit) : Nat → Int32 → PM Unit
  | 0, _ => pflr
  | n + 1, x1 =>
    pbnd (pchk 6 0) fun _ =>
    pbnd (pbnd (pchk 0 1) fun _ => psiz 1) fun v7 =>
    (if v7 ≤ x1 then
    kx
    else
    pbnd (pchk 6 0) fun _ =>
    pbnd (pbnd (pchk 0 1) fun _ => pget 1 x1) fun _ =>
    pbnd (pchk 1 x1.toNatClampNeg) fun _ =>
    pbnd (pbnd (pchk 1 x1.toNatClampNeg) fun _ => p_X0_current x1.toNatClampNeg) fun v24 =>
    pbnd (pgI 5 v24 12) fun v29 =>
    (if v29 = 0 then
    p_X5_leadAnew_b52 (p_X5_leadAnew_L2 kx n) x1
    else
    pbnd (pchk 6 0) fun _ =>
    pbnd (pgI 5 v24 10) fun v41 =>
    pbnd (pgI 5 v24 11) fun v45 =>
    pbnd (pbnd (pchk 3 0) fun _ => p_X2_leadOn v24 v41 v45) fun v48 =>
    p_X5_leadAnew_b52 (p_X5_leadAnew_L2 kx n) x1))
set_option maxRecDepth 20000 in
theorem Lf_X5_leadAnew_L2 {y : LY} {t0 mi : Nat} (kx : Mo Unit) (pkx : PM Unit) (hkx : Lft y (fun (_ : Unit) (_ : Unit) => True) kx pkx) : ∀ (n : Nat) (x1 : Int32), Lft y (fun (_ : Unit) (_ : Unit) => True) (X5_leadAnew_L2 t0 mi (adO y 6 0) kx n x1) (p_X5_leadAnew_L2 pkx n x1) := by
  intro n
  induction n with
  | zero => intro x1; rw [p_X5_leadAnew_L2]; exact Lft_flr
  | succ n ih =>
    intro x1; rw [X5_leadAnew_L2, p_X5_leadAnew_L2]
    refine Lft_bnd (Lft_gA (a := (adO y 0 1)) (fun F => rfl)) (fun v4 _ e9 => ?_)
    subst e9
    refine Lft_bnd (Lft_vc (Lft_siz (by decide))) (fun v7 z9 e9 => ?_)
    subst e9
    refine Lft_if (fun _ => ?_) (fun _ => ?_)
    · exact hkx
    · refine Lft_bnd (Lft_gA (a := (adO y 0 1)) (fun F => rfl)) (fun v14 _ e9 => ?_)
      subst e9
      refine Lft_bnd (Lft_vc (Lft_get1)) (fun v18 _ e9 => ?_)
      subst e9
      refine Lft_bnd (Lft_isC) (fun _ _ _ => ?_)
      refine Lft_bnd (Lft_vc (Lf_f_X0_current x1.toNatClampNeg)) (fun x9 v24 e9 => ?_)
      subst e9
      refine Lft_bnd (Lft_gI (fun F => rfl)) (fun v29 z9 e9 => ?_)
      subst e9
      refine Lft_if (fun _ => ?_) (fun _ => ?_)
      · exact Lf_X5_leadAnew_b52 x1 _ _ ih
      · refine Lft_bnd (Lft_gA (a := (adO y 3 0)) (fun F => rfl)) (fun v36 _ e9 => ?_)
        subst e9
        refine Lft_bnd (Lft_gI (fun F => rfl)) (fun v41 z9 e9 => ?_)
        subst e9
        refine Lft_bnd (Lft_gI (fun F => rfl)) (fun v45 z9 e9 => ?_)
        subst e9
        refine Lft_bnd (Lft_vc (Lf_f_X2_leadOn v24 v41 v45)) (fun v48 z9 e9 => ?_)
        subst e9
        exact Lf_X5_leadAnew_b52 x1 _ _ ih
def p_X5_leadAnew : PM Unit :=
    p_X5_leadAnew_L2 (prt ()) FU (0 : Int32)
set_option maxRecDepth 20000 in
theorem Lf_f_X5_leadAnew {y : LY} {t0 mi : Nat} : Lft y (fun (_ : Unit) (_ : Unit) => True) (f_X5_leadAnew t0 mi (adO y 6 0)) (p_X5_leadAnew) := by
  unfold f_X5_leadAnew p_X5_leadAnew
  refine Lf_X5_leadAnew_L2 _ _ ?_ FU (0 : Int32)
  exact Lft_rt trivial
def p_X5_cancel_b24 : PM Int32 :=
    prt (-1 : Int32)
set_option maxRecDepth 20000 in
theorem Lf_X5_cancel_b24 {y : LY} {t0 mi : Nat} : Lft y Eq (X5_cancel_b24 t0 mi) (p_X5_cancel_b24) := by
  unfold X5_cancel_b24 p_X5_cancel_b24
  exact Lft_rt rfl
def p_X5_cancel (x1 : Int32) : PM Int32 :=
    pbnd (pbnd (pchk 6 0) fun _ => p_X5_trainOf x1) fun v2 =>
    pbnd (pgI 4 v2 5) fun v7 =>
    (if v7 = 0 then
    pbnd (pgI 6 0 4) fun v15 =>
    pbnd (pbnd (pchk 4 v2) fun _ => p_X3_beginsAfter v2 v15) fun v18 =>
    (if v18 = 0 then
    p_X5_cancel_b24
    else
    pbnd (ppZ 4 v2 5 (1 : Int32)) fun _ =>
    pbnd (pbnd (pchk 6 0) fun _ => p_X5_takeOffAll x1) fun v33 =>
    pbnd (pbnd (pchk 6 0) fun _ => p_X5_leadAnew) fun _ =>
    prt v33)
    else
    p_X5_cancel_b24)
set_option maxRecDepth 20000 in
theorem Lf_f_X5_cancel {y : LY} {t0 mi : Nat} (x1 : Int32) : Lft y Eq (f_X5_cancel t0 mi (adO y 6 0) x1) (p_X5_cancel x1) := by
  unfold f_X5_cancel p_X5_cancel
  refine Lft_bnd (Lft_vc (Lf_f_X5_trainOf x1)) (fun x9 v2 e9 => ?_)
  subst e9
  refine Lft_bnd (Lft_gI (fun F => rfl)) (fun v7 z9 e9 => ?_)
  subst e9
  refine Lft_if (fun _ => ?_) (fun _ => ?_)
  · refine Lft_bnd (Lft_gI (fun F => rfl)) (fun v15 z9 e9 => ?_)
    subst e9
    refine Lft_bnd (Lft_vc (Lf_f_X3_beginsAfter v2 v15)) (fun v18 z9 e9 => ?_)
    subst e9
    refine Lft_if (fun _ => ?_) (fun _ => ?_)
    · exact Lf_X5_cancel_b24
    · refine Lft_bnd (Lft_pZ ⟨by decide, by decide⟩ (fun F => ⟨by simp [fds, u3], by simp [fds]⟩)) (fun _ _ _ => ?_)
      refine Lft_bnd (Lft_vc (Lf_f_X5_takeOffAll x1)) (fun v33 z9 e9 => ?_)
      subst e9
      refine Lft_bnd (Lft_vc (Lf_f_X5_leadAnew)) (fun _ _ _ => ?_)
      exact Lft_rt rfl
  · exact Lf_X5_cancel_b24
def p_L_cancel (x1 : Int32) : PM Int32 :=
    pctc (pbnd (pchk 6 0) fun _ => p_X5_cancel x1) (fun v4 =>
    pbnd (pstO (0 : Int32) v4.toInt64) fun _ =>
    prt (0 : Int32)) (fun E =>
    (if E = "java/util/NoSuchElementException" then
    prt (1 : Int32)
    else
    pflr))
set_option maxRecDepth 20000 in
theorem Lf_f_L_cancel {y : LY} {t0 mi : Nat} (x1 : Int32) : Lft y Eq (f_L_cancel t0 mi (adO y 6 0) x1 (yB y + 45)) (p_L_cancel x1) := by
  unfold f_L_cancel p_L_cancel
  refine Lft_ctc (Lft_vc (Lf_f_X5_cancel x1)) (fun v4 z9 e9 => ?_) (fun E => ?_)
  · subst e9
    refine Lft_bnd (Lft_stO) (fun _ _ _ => ?_)
    exact Lft_rt rfl
  · refine Lft_if (fun _ => ?_) (fun _ => ?_)
    · exact Lft_rt rfl
    · exact Lft_flr
def p_X6_firstOn_L9 (x2 : Int32) (x3 : Int32) (kx : PM Int32) : Nat → Int32 → PM Int32
  | 0, _ => pflr
  | n + 1, x4 =>
    pbnd (pchk 7 0) fun _ =>
    pbnd (pld 9 24 x3) fun v16 =>
    (if v16 ≤ x4 then
    kx
    else
    pbnd (pchk 7 0) fun _ =>
    pbnd (p_X6_legAt x3 x4) fun v27 =>
    pbnd (pld 9 27 v27) fun v30 =>
    (if v30 = x2 then
    prt x4
    else
    p_X6_firstOn_L9 x2 x3 kx n (x4 + 1)))
set_option maxRecDepth 20000 in
theorem Lf_X6_firstOn_L9 {y : LY} {t0 mi : Nat} (x2 : Int32) (x3 : Int32) (kx : Mo Int32) (pkx : PM Int32) (hkx : Lft y Eq kx pkx) : ∀ (n : Nat) (x4 : Int32), Lft y Eq (X6_firstOn_L9 t0 mi (adO y 7 0) x2 x3 kx n x4) (p_X6_firstOn_L9 x2 x3 pkx n x4) := by
  intro n
  induction n with
  | zero => intro x4; rw [p_X6_firstOn_L9]; exact Lft_flr
  | succ n ih =>
    intro x4; rw [X6_firstOn_L9, p_X6_firstOn_L9]
    refine Lft_bnd (Lft_gA (a := (adA y 9 24)) (fun F => rfl)) (fun v12 _ e9 => ?_)
    subst e9
    refine Lft_bnd (Lft_ld rfl) (fun v16 z9 e9 => ?_)
    subst e9
    refine Lft_if (fun _ => ?_) (fun _ => ?_)
    · exact hkx
    · refine Lft_bnd (Lft_gA (a := (adA y 9 27)) (fun F => rfl)) (fun v21 _ e9 => ?_)
      subst e9
      refine Lft_bnd (Lf_f_X6_legAt x3 x4) (fun v27 z9 e9 => ?_)
      subst e9
      refine Lft_bnd (Lft_ld rfl) (fun v30 z9 e9 => ?_)
      subst e9
      refine Lft_if (fun _ => ?_) (fun _ => ?_)
      · exact Lft_rt rfl
      · exact ih (x4 + 1)
def p_X6_firstOn (x1 : Int32) (x2 : Int32) : PM Int32 :=
    pbnd (pbnd (pchk 7 0) fun _ => p_X6_wayOf x1) fun v2 =>
    p_X6_firstOn_L9 x2 v2 (prt (-1 : Int32)) FU (0 : Int32)
set_option maxRecDepth 20000 in
theorem Lf_f_X6_firstOn {y : LY} {t0 mi : Nat} (x1 : Int32) (x2 : Int32) : Lft y Eq (f_X6_firstOn t0 mi (adO y 7 0) x1 x2) (p_X6_firstOn x1 x2) := by
  unfold f_X6_firstOn p_X6_firstOn
  refine Lft_bnd (Lft_vc (Lf_f_X6_wayOf x1)) (fun v2 z9 e9 => ?_)
  subst e9
  refine Lf_X6_firstOn_L9 x2 v2 _ _ ?_ FU (0 : Int32)
  exact Lft_rt rfl
def p_X6_behind (x1 : Int32) : PM Int32 :=
    pbnd (pchk 7 0) fun _ =>
    pbnd (pld 9 27 x1) fun v5 =>
    pbnd (pchk 7 0) fun _ =>
    pbnd (pld 9 29 x1) fun v11 =>
    pbnd (p_X6_node v5 v11) fun v12 =>
    pbnd (pchk 7 0) fun _ =>
    pbnd (pld 9 10 v12) fun v21 =>
    pbnd (pchk 7 0) fun _ =>
    pbnd (pchk 7 0) fun _ =>
    pbnd (pld 9 9 v12) fun v31 =>
    pbnd (pld 9 6 v31) fun v32 =>
    prt (v21 + v32)
set_option maxRecDepth 20000 in
theorem Lf_f_X6_behind {y : LY} {t0 mi : Nat} (x1 : Int32) : Lft y Eq (f_X6_behind t0 mi (adO y 7 0) x1) (p_X6_behind x1) := by
  unfold f_X6_behind p_X6_behind
  refine Lft_bnd (Lft_gA (a := (adA y 9 27)) (fun F => rfl)) (fun v1 _ e9 => ?_)
  subst e9
  refine Lft_bnd (Lft_ld rfl) (fun v5 z9 e9 => ?_)
  subst e9
  refine Lft_bnd (Lft_gA (a := (adA y 9 29)) (fun F => rfl)) (fun v7 _ e9 => ?_)
  subst e9
  refine Lft_bnd (Lft_ld rfl) (fun v11 z9 e9 => ?_)
  subst e9
  refine Lft_bnd (Lf_f_X6_node v5 v11) (fun v12 z9 e9 => ?_)
  subst e9
  refine Lft_bnd (Lft_gA (a := (adA y 9 10)) (fun F => rfl)) (fun v17 _ e9 => ?_)
  subst e9
  refine Lft_bnd (Lft_ld rfl) (fun v21 z9 e9 => ?_)
  subst e9
  refine Lft_bnd (Lft_gA (a := (adA y 9 6)) (fun F => rfl)) (fun v23 _ e9 => ?_)
  subst e9
  refine Lft_bnd (Lft_gA (a := (adA y 9 9)) (fun F => rfl)) (fun v27 _ e9 => ?_)
  subst e9
  refine Lft_bnd (Lft_ld rfl) (fun v31 z9 e9 => ?_)
  subst e9
  refine Lft_bnd (Lft_ld rfl) (fun v32 z9 e9 => ?_)
  subst e9
  exact Lft_rt rfl
def p_X6_there_b33 (s0 : Int32) : PM Int32 :=
    prt s0
set_option maxRecDepth 20000 in
theorem Lf_X6_there_b33 {y : LY} {t0 mi : Nat} (s0 : Int32) : Lft y Eq (X6_there_b33 t0 mi s0) (p_X6_there_b33 s0) := by
  unfold X6_there_b33 p_X6_there_b33
  exact Lft_rt rfl
def p_X6_there (x1 : Int32) (x2 : Int32) : PM Int32 :=
    pbnd (pchk 7 0) fun _ =>
    pbnd (pld 9 24 x1) fun v5 =>
    (if v5 = 0 then
    pbnd (pbnd (pchk 7 0) fun _ => p_X6_sortedAt x2) fun v11 =>
    p_X6_there_b33 v11
    else
    pbnd (pchk 7 0) fun _ =>
    pbnd (pld 9 24 x1) fun v24 =>
    pbnd (p_X6_legAt x1 (v24 - (1 : Int32))) fun v27 =>
    pbnd (pbnd (pchk 7 0) fun _ => p_X6_behind v27) fun v30 =>
    p_X6_there_b33 v30)
set_option maxRecDepth 20000 in
theorem Lf_f_X6_there {y : LY} {t0 mi : Nat} (x1 : Int32) (x2 : Int32) : Lft y Eq (f_X6_there t0 mi (adO y 7 0) x1 x2) (p_X6_there x1 x2) := by
  unfold f_X6_there p_X6_there
  refine Lft_bnd (Lft_gA (a := (adA y 9 24)) (fun F => rfl)) (fun v1 _ e9 => ?_)
  subst e9
  refine Lft_bnd (Lft_ld rfl) (fun v5 z9 e9 => ?_)
  subst e9
  refine Lft_if (fun _ => ?_) (fun _ => ?_)
  · refine Lft_bnd (Lft_vc (Lf_f_X6_sortedAt x2)) (fun v11 z9 e9 => ?_)
    subst e9
    exact Lf_X6_there_b33 v11
  · refine Lft_bnd (Lft_gA (a := (adA y 9 24)) (fun F => rfl)) (fun v20 _ e9 => ?_)
    subst e9
    refine Lft_bnd (Lft_ld rfl) (fun v24 z9 e9 => ?_)
    subst e9
    refine Lft_bnd (Lf_f_X6_legAt x1 (v24 - (1 : Int32))) (fun v27 z9 e9 => ?_)
    subst e9
    refine Lft_bnd (Lft_vc (Lf_f_X6_behind v27)) (fun v30 z9 e9 => ?_)
    subst e9
    exact Lf_X6_there_b33 v30
def p_X6_cancel_b53 : PM Int32 :=
    prt (-1 : Int32)
set_option maxRecDepth 20000 in
theorem Lf_X6_cancel_b53 {y : LY} {t0 mi : Nat} : Lft y Eq (X6_cancel_b53 t0 mi) (p_X6_cancel_b53) := by
  unfold X6_cancel_b53 p_X6_cancel_b53
  exact Lft_rt rfl
def p_X6_cancel_b144 (kh66 : Int32 → Int32 → PM Int32) (x1 : Int32) (x2 : Int32) (x3 : Int32) : PM Int32 :=
    kh66 x2 (x3 + 1)
set_option maxRecDepth 20000 in
theorem Lf_X6_cancel_b144 {y : LY} {t0 mi : Nat} (x1 : Int32) (x2 : Int32) (x3 : Int32) (kh66 : Int32 → Int32 → Mo Int32) (pkh66 : Int32 → Int32 → PM Int32) (hkh66 : ∀ (z0 : Int32) (z1 : Int32), Lft y Eq (kh66 z0 z1) (pkh66 z0 z1)) : Lft y Eq (X6_cancel_b144 t0 mi kh66 (adO y 7 0) x1 x2 x3) (p_X6_cancel_b144 pkh66 x1 x2 x3) := by
  unfold X6_cancel_b144 p_X6_cancel_b144
  exact hkh66 x2 (x3 + 1)
def p_X6_cancel_b98 (kh66 : Int32 → Int32 → PM Int32) (x1 : Int32) (x2 : Int32) (x3 : Int32) (x4 : Int32) (s0 : Int32) (s1 : Int32) : PM Int32 :=
    pbnd (pstZ 9 37 s1 s0) fun _ =>
    (if x4 = (-1 : Int32) then
    p_X6_cancel_b144 kh66 x1 x2 x3
    else
    pbnd (pbnd (pchk 7 0) fun _ => p_X6_wayOf x3) fun v110 =>
    pbnd (pbnd (pchk 7 0) fun _ => p_X6_load0 v110 x4 (-1 : Int32)) fun _ =>
    pbnd (pchk 7 0) fun _ =>
    pbnd (pst 9 24 v110 x4) fun _ =>
    pbnd (pchk 7 0) fun _ =>
    pbnd (pstZ 9 23 v110 (0 : Int32)) fun _ =>
    p_X6_cancel_b144 kh66 x1 (x2 + 1) x3)
set_option maxRecDepth 20000 in
theorem Lf_X6_cancel_b98 {y : LY} {t0 mi : Nat} (x1 : Int32) (x2 : Int32) (x3 : Int32) (x4 : Int32) (s0 : Int32) (s1 : Int32) (kh66 : Int32 → Int32 → Mo Int32) (pkh66 : Int32 → Int32 → PM Int32) (hkh66 : ∀ (z0 : Int32) (z1 : Int32), Lft y Eq (kh66 z0 z1) (pkh66 z0 z1)) : Lft y Eq (X6_cancel_b98 t0 mi kh66 (adO y 7 0) x1 x2 x3 x4 s0 s1 (adA y 9 37)) (p_X6_cancel_b98 pkh66 x1 x2 x3 x4 s0 s1) := by
  unfold X6_cancel_b98 p_X6_cancel_b98
  refine Lft_bnd (Lft_stZ rfl) (fun _ _ _ => ?_)
  refine Lft_if (fun _ => ?_) (fun _ => ?_)
  · exact Lf_X6_cancel_b144 x1 x2 x3 _ _ hkh66
  · refine Lft_bnd (Lft_vc (Lf_f_X6_wayOf x3)) (fun v110 z9 e9 => ?_)
    subst e9
    refine Lft_bnd (Lft_vc (Lf_f_X6_load0 v110 x4 (-1 : Int32))) (fun _ _ _ => ?_)
    refine Lft_bnd (Lft_gA (a := (adA y 9 24)) (fun F => rfl)) (fun v125 _ e9 => ?_)
    subst e9
    refine Lft_bnd (Lft_st rfl) (fun _ _ _ => ?_)
    refine Lft_bnd (Lft_gA (a := (adA y 9 23)) (fun F => rfl)) (fun v134 _ e9 => ?_)
    subst e9
    refine Lft_bnd (Lft_stZ rfl) (fun _ _ _ => ?_)
    exact Lf_X6_cancel_b144 x1 (x2 + 1) x3 _ _ hkh66
def p_X6_cancel_L66 (x1 : Int32) (kx : Int32 → PM Int32) : Nat → Int32 → Int32 → PM Int32
  | 0, _, _ => pflr
  | n + 1, x2, x3 =>
    pbnd (pgI 7 0 4) fun v68 =>
    (if v68 ≤ x3 then
    kx x2
    else
    pbnd (pbnd (pchk 7 0) fun _ => p_X6_firstOn x3 x1) fun v77 =>
    pbnd (pchk 7 0) fun _ =>
    (if v77 = (-1 : Int32) then
    p_X6_cancel_b98 (p_X6_cancel_L66 x1 kx n) x1 x2 x3 v77 (0 : Int32) x3
    else
    p_X6_cancel_b98 (p_X6_cancel_L66 x1 kx n) x1 x2 x3 v77 (1 : Int32) x3))
set_option maxRecDepth 20000 in
theorem Lf_X6_cancel_L66 {y : LY} {t0 mi : Nat} (x1 : Int32) (kx : Int32 → Mo Int32) (pkx : Int32 → PM Int32) (hkx : ∀ (z0 : Int32), Lft y Eq (kx z0) (pkx z0)) : ∀ (n : Nat) (x2 : Int32) (x3 : Int32), Lft y Eq (X6_cancel_L66 t0 mi (adO y 7 0) x1 kx n x2 x3) (p_X6_cancel_L66 x1 pkx n x2 x3) := by
  intro n
  induction n with
  | zero => intro x2 x3; rw [p_X6_cancel_L66]; exact Lft_flr
  | succ n ih =>
    intro x2 x3; rw [X6_cancel_L66, p_X6_cancel_L66]
    refine Lft_bnd (Lft_gI (fun F => rfl)) (fun v68 z9 e9 => ?_)
    subst e9
    refine Lft_if (fun _ => ?_) (fun _ => ?_)
    · exact hkx x2
    · refine Lft_bnd (Lft_vc (Lf_f_X6_firstOn x3 x1)) (fun v77 z9 e9 => ?_)
      subst e9
      refine Lft_bnd (Lft_gA (a := (adA y 9 37)) (fun F => rfl)) (fun v83 _ e9 => ?_)
      subst e9
      refine Lft_if (fun _ => ?_) (fun _ => ?_)
      · exact Lf_X6_cancel_b98 x1 x2 x3 v77 (0 : Int32) x3 _ _ ih
      · exact Lf_X6_cancel_b98 x1 x2 x3 v77 (1 : Int32) x3 _ _ ih
def p_X6_cancel_b286 (kh152 : Int32 → PM Int32) (x2 : Int32) (x3 : Int32) : PM Int32 :=
    kh152 (x3 + 1)
set_option maxRecDepth 20000 in
theorem Lf_X6_cancel_b286 {y : LY} {t0 mi : Nat} (x2 : Int32) (x3 : Int32) (kh152 : Int32 → Mo Int32) (pkh152 : Int32 → PM Int32) (hkh152 : ∀ (z0 : Int32), Lft y Eq (kh152 z0) (pkh152 z0)) : Lft y Eq (X6_cancel_b286 t0 mi kh152 (adO y 7 0) x2 x3) (p_X6_cancel_b286 pkh152 x2 x3) := by
  unfold X6_cancel_b286 p_X6_cancel_b286
  exact hkh152 (x3 + 1)
def p_X6_cancel_b235 (kh152 : Int32 → PM Int32) (x2 : Int32) (x3 : Int32) (x4 : Int32) (s0 : Int32) : PM Int32 :=
    pbnd (pgI 7 0 1) fun v238 =>
    pbnd (pbnd (pchk 7 0) fun _ => p_X6_there x4 x3) fun v245 =>
    pbnd (pbnd (pchk 7 0) fun _ => p_X6_leadOn x3 s0 (mx v238 v245)) fun v259 =>
    (if v259 = 0 then
    pbnd (pchk 7 0) fun _ =>
    pbnd (pst 9 25 x4 s0) fun _ =>
    pbnd (pchk 7 0) fun _ =>
    pbnd (pst 9 26 x4 (mx v238 v245)) fun _ =>
    p_X6_cancel_b286 kh152 x2 x3
    else
    p_X6_cancel_b286 kh152 x2 x3)
set_option maxRecDepth 20000 in
theorem Lf_X6_cancel_b235 {y : LY} {t0 mi : Nat} (x2 : Int32) (x3 : Int32) (x4 : Int32) (s0 : Int32) (kh152 : Int32 → Mo Int32) (pkh152 : Int32 → PM Int32) (hkh152 : ∀ (z0 : Int32), Lft y Eq (kh152 z0) (pkh152 z0)) : Lft y Eq (X6_cancel_b235 t0 mi kh152 (adO y 7 0) x2 x3 x4 s0) (p_X6_cancel_b235 pkh152 x2 x3 x4 s0) := by
  unfold X6_cancel_b235 p_X6_cancel_b235
  refine Lft_bnd (Lft_gI (fun F => rfl)) (fun v238 z9 e9 => ?_)
  subst e9
  refine Lft_bnd (Lft_vc (Lf_f_X6_there x4 x3)) (fun v245 z9 e9 => ?_)
  subst e9
  refine Lft_bnd (Lft_vc (Lf_f_X6_leadOn x3 s0 (mx v238 v245))) (fun v259 z9 e9 => ?_)
  subst e9
  refine Lft_if (fun _ => ?_) (fun _ => ?_)
  · refine Lft_bnd (Lft_gA (a := (adA y 9 25)) (fun F => rfl)) (fun v269 _ e9 => ?_)
    subst e9
    refine Lft_bnd (Lft_st rfl) (fun _ _ _ => ?_)
    refine Lft_bnd (Lft_gA (a := (adA y 9 26)) (fun F => rfl)) (fun v278 _ e9 => ?_)
    subst e9
    refine Lft_bnd (Lft_st rfl) (fun _ _ _ => ?_)
    exact Lf_X6_cancel_b286 x2 x3 _ _ hkh152
  · exact Lf_X6_cancel_b286 x2 x3 _ _ hkh152
def p_X6_cancel_L152 (x2 : Int32) (kx : PM Int32) : Nat → Int32 → PM Int32
  | 0, _ => pflr
  | n + 1, x3 =>
    pbnd (pgI 7 0 4) fun v154 =>
    (if v154 ≤ x3 then
    kx
    else
    pbnd (pchk 7 0) fun _ =>
    pbnd (pld 9 37 x3) fun v165 =>
    (if v165 = 0 then
    p_X6_cancel_b286 (p_X6_cancel_L152 x2 kx n) x2 x3
    else
    pbnd (pbnd (pchk 7 0) fun _ => p_X6_wayOf x3) fun v174 =>
    pbnd (pchk 7 0) fun _ =>
    pbnd (pld 9 24 v174) fun v187 =>
    pbnd (p_X6_legAt v174 (v187 - (1 : Int32))) fun v190 =>
    pbnd (pchk 7 0) fun _ =>
    pbnd (pld 9 24 v174) fun v201 =>
    (if v201 = 0 then
    pbnd (pbnd (pchk 7 0) fun _ => p_X6_fromOf x3) fun v207 =>
    p_X6_cancel_b235 (p_X6_cancel_L152 x2 kx n) x2 x3 v174 v207
    else
    pbnd (pchk 7 0) fun _ =>
    pbnd (pchk 7 0) fun _ =>
    pbnd (pld 9 27 v190) fun v223 =>
    pbnd (pchk 7 0) fun _ =>
    pbnd (pld 9 29 v190) fun v230 =>
    pbnd (p_X6_node v223 v230) fun v231 =>
    pbnd (pld 9 9 v231) fun v234 =>
    p_X6_cancel_b235 (p_X6_cancel_L152 x2 kx n) x2 x3 v174 v234)))
set_option maxRecDepth 20000 in
theorem Lf_X6_cancel_L152 {y : LY} {t0 mi : Nat} (x2 : Int32) (kx : Mo Int32) (pkx : PM Int32) (hkx : Lft y Eq kx pkx) : ∀ (n : Nat) (x3 : Int32), Lft y Eq (X6_cancel_L152 t0 mi (adO y 7 0) x2 kx n x3) (p_X6_cancel_L152 x2 pkx n x3) := by
  intro n
  induction n with
  | zero => intro x3; rw [p_X6_cancel_L152]; exact Lft_flr
  | succ n ih =>
    intro x3; rw [X6_cancel_L152, p_X6_cancel_L152]
    refine Lft_bnd (Lft_gI (fun F => rfl)) (fun v154 z9 e9 => ?_)
    subst e9
    refine Lft_if (fun _ => ?_) (fun _ => ?_)
    · exact hkx
    · refine Lft_bnd (Lft_gA (a := (adA y 9 37)) (fun F => rfl)) (fun v161 _ e9 => ?_)
      subst e9
      refine Lft_bnd (Lft_ld rfl) (fun v165 z9 e9 => ?_)
      subst e9
      refine Lft_if (fun _ => ?_) (fun _ => ?_)
      · exact Lf_X6_cancel_b286 x2 x3 _ _ ih
      · refine Lft_bnd (Lft_vc (Lf_f_X6_wayOf x3)) (fun v174 z9 e9 => ?_)
        subst e9
        refine Lft_bnd (Lft_gA (a := (adA y 9 24)) (fun F => rfl)) (fun v182 _ e9 => ?_)
        subst e9
        refine Lft_bnd (Lft_ld rfl) (fun v187 z9 e9 => ?_)
        subst e9
        refine Lft_bnd (Lf_f_X6_legAt v174 (v187 - (1 : Int32))) (fun v190 z9 e9 => ?_)
        subst e9
        refine Lft_bnd (Lft_gA (a := (adA y 9 24)) (fun F => rfl)) (fun v196 _ e9 => ?_)
        subst e9
        refine Lft_bnd (Lft_ld rfl) (fun v201 z9 e9 => ?_)
        subst e9
        refine Lft_if (fun _ => ?_) (fun _ => ?_)
        · refine Lft_bnd (Lft_vc (Lf_f_X6_fromOf x3)) (fun v207 z9 e9 => ?_)
          subst e9
          exact Lf_X6_cancel_b235 x2 x3 v174 v207 _ _ ih
        · refine Lft_bnd (Lft_gA (a := (adA y 9 9)) (fun F => rfl)) (fun v214 _ e9 => ?_)
          subst e9
          refine Lft_bnd (Lft_gA (a := (adA y 9 27)) (fun F => rfl)) (fun v218 _ e9 => ?_)
          subst e9
          refine Lft_bnd (Lft_ld rfl) (fun v223 z9 e9 => ?_)
          subst e9
          refine Lft_bnd (Lft_gA (a := (adA y 9 29)) (fun F => rfl)) (fun v225 _ e9 => ?_)
          subst e9
          refine Lft_bnd (Lft_ld rfl) (fun v230 z9 e9 => ?_)
          subst e9
          refine Lft_bnd (Lf_f_X6_node v223 v230) (fun v231 z9 e9 => ?_)
          subst e9
          refine Lft_bnd (Lft_ld rfl) (fun v234 z9 e9 => ?_)
          subst e9
          exact Lf_X6_cancel_b235 x2 x3 v174 v234 _ _ ih
def p_X6_cancel (x1 : Int32) : PM Int32 :=
    pbnd (ppI 7 0 0 (0 : Int32)) fun _ =>
    pbnd (pbnd (pchk 7 0) fun _ => p_X6_isTrain x1) fun v7 =>
    (if v7 = 0 then
    pbnd (pbnd (pchk 7 0) fun _ => p_X6_fail) fun v14 =>
    prt v14
    else
    pbnd (pchk 7 0) fun _ =>
    pbnd (pld 9 13 x1) fun v23 =>
    (if v23 = 0 then
    pbnd (pchk 7 0) fun _ =>
    pbnd (pld 9 8 x1) fun v32 =>
    (if v32 = 0 then
    p_X6_cancel_b53
    else
    pbnd (pchk 7 0) fun _ =>
    pbnd (p_X6_node x1 (0 : Int32)) fun v42 =>
    pbnd (pld 9 10 v42) fun v45 =>
    pbnd (pgI 7 0 1) fun v47 =>
    (if v47 < v45 then
    pbnd (pchk 7 0) fun _ =>
    pbnd (pstZ 9 13 x1 (1 : Int32)) fun _ =>
    p_X6_cancel_L66 x1 (fun y1_2 =>
    p_X6_cancel_L152 y1_2 (prt y1_2) FU (0 : Int32)) FU (0 : Int32) (0 : Int32)
    else
    p_X6_cancel_b53))
    else
    p_X6_cancel_b53))
set_option maxRecDepth 20000 in
theorem Lf_f_X6_cancel {y : LY} {t0 mi : Nat} (x1 : Int32) : Lft y Eq (f_X6_cancel t0 mi (adO y 7 0) x1) (p_X6_cancel x1) := by
  unfold f_X6_cancel p_X6_cancel
  refine Lft_bnd (Lft_pI ⟨by decide, by decide⟩ (fun F => ⟨by simp [fds, u3], by simp [fds]⟩)) (fun _ _ _ => ?_)
  refine Lft_bnd (Lft_vc (Lf_f_X6_isTrain x1)) (fun v7 z9 e9 => ?_)
  subst e9
  refine Lft_if (fun _ => ?_) (fun _ => ?_)
  · refine Lft_bnd (Lft_vc (Lf_f_X6_fail)) (fun v14 z9 e9 => ?_)
    subst e9
    exact Lft_rt rfl
  · refine Lft_bnd (Lft_gA (a := (adA y 9 13)) (fun F => rfl)) (fun v19 _ e9 => ?_)
    subst e9
    refine Lft_bnd (Lft_ld rfl) (fun v23 z9 e9 => ?_)
    subst e9
    refine Lft_if (fun _ => ?_) (fun _ => ?_)
    · refine Lft_bnd (Lft_gA (a := (adA y 9 8)) (fun F => rfl)) (fun v28 _ e9 => ?_)
      subst e9
      refine Lft_bnd (Lft_ld rfl) (fun v32 z9 e9 => ?_)
      subst e9
      refine Lft_if (fun _ => ?_) (fun _ => ?_)
      · exact Lf_X6_cancel_b53
      · refine Lft_bnd (Lft_gA (a := (adA y 9 10)) (fun F => rfl)) (fun v37 _ e9 => ?_)
        subst e9
        refine Lft_bnd (Lf_f_X6_node x1 (0 : Int32)) (fun v42 z9 e9 => ?_)
        subst e9
        refine Lft_bnd (Lft_ld rfl) (fun v45 z9 e9 => ?_)
        subst e9
        refine Lft_bnd (Lft_gI (fun F => rfl)) (fun v47 z9 e9 => ?_)
        subst e9
        refine Lft_if (fun _ => ?_) (fun _ => ?_)
        · refine Lft_bnd (Lft_gA (a := (adA y 9 13)) (fun F => rfl)) (fun v56 _ e9 => ?_)
          subst e9
          refine Lft_bnd (Lft_stZ rfl) (fun _ _ _ => ?_)
          refine Lf_X6_cancel_L66 x1 _ _ (fun y1_2 => ?_) FU (0 : Int32) (0 : Int32)
          refine Lf_X6_cancel_L152 y1_2 _ _ ?_ FU (0 : Int32)
          exact Lft_rt rfl
        · exact Lf_X6_cancel_b53
    · exact Lf_X6_cancel_b53
def p_X5_boxOf_b15 : PM Nat :=
    pthr "java/util/NoSuchElementException"
set_option maxRecDepth 20000 in
theorem Lf_X5_boxOf_b15 {y : LY} {t0 mi : Nat} : Lft y (fun x z => x = adO y 1 z) (X5_boxOf_b15 t0 mi) (p_X5_boxOf_b15) := by
  unfold X5_boxOf_b15 p_X5_boxOf_b15
  exact Lft_thr
def p_X5_boxOf (x1 : Int32) : PM Nat :=
    (if x1 < 0 then
    p_X5_boxOf_b15
    else
    pbnd (pchk 6 0) fun _ =>
    pbnd (pbnd (pchk 0 1) fun _ => psiz 1) fun v9 =>
    (if x1 < v9 then
    pbnd (pchk 6 0) fun _ =>
    pbnd (pbnd (pchk 0 1) fun _ => pget 1 x1) fun _ =>
    pbnd (pchk 1 x1.toNatClampNeg) fun _ =>
    prt x1.toNatClampNeg
    else
    p_X5_boxOf_b15))
set_option maxRecDepth 20000 in
theorem Lf_f_X5_boxOf {y : LY} {t0 mi : Nat} (x1 : Int32) : Lft y (fun x z => x = adO y 1 z) (f_X5_boxOf t0 mi (adO y 6 0) x1) (p_X5_boxOf x1) := by
  unfold f_X5_boxOf p_X5_boxOf
  refine Lft_if (fun _ => ?_) (fun _ => ?_)
  · exact Lf_X5_boxOf_b15
  · refine Lft_bnd (Lft_gA (a := (adO y 0 1)) (fun F => rfl)) (fun v6 _ e9 => ?_)
    subst e9
    refine Lft_bnd (Lft_vc (Lft_siz (by decide))) (fun v9 z9 e9 => ?_)
    subst e9
    refine Lft_if (fun _ => ?_) (fun _ => ?_)
    · refine Lft_bnd (Lft_gA (a := (adO y 0 1)) (fun F => rfl)) (fun v26 _ e9 => ?_)
      subst e9
      refine Lft_bnd (Lft_vc (Lft_get1)) (fun v30 _ e9 => ?_)
      subst e9
      refine Lft_bnd (Lft_isC) (fun _ _ _ => ?_)
      exact Lft_rt rfl
    · exact Lf_X5_boxOf_b15
def p_X0_isEmpty_b12 (s0 : Int32) : PM Int32 :=
    prtZ s0
set_option maxRecDepth 20000 in
theorem Lf_X0_isEmpty_b12 {y : LY} {t0 mi : Nat} (s0 : Int32) : Lft y Eq (X0_isEmpty_b12 t0 mi s0) (p_X0_isEmpty_b12 s0) := by
  unfold X0_isEmpty_b12 p_X0_isEmpty_b12
  exact Lft_rtZ
def p_X0_isEmpty (x0 : Nat) : PM Int32 :=
    pbnd (pgO x0) fun v1 =>
    (if v1 = none then
    p_X0_isEmpty_b12 (0 : Int32)
    else
    p_X0_isEmpty_b12 (1 : Int32))
set_option maxRecDepth 20000 in
theorem Lf_f_X0_isEmpty {y : LY} {t0 mi : Nat} (x0 : Nat) : Lft y Eq (f_X0_isEmpty t0 mi (adO y 1 x0)) (p_X0_isEmpty x0) := by
  unfold f_X0_isEmpty p_X0_isEmpty
  refine Lft_bnd (Lft_gO) (fun x9 v1 e9 => ?_)
  subst e9
  refine Lft_ifn (fun _ => ?_) (fun _ => ?_)
  · exact Lf_X0_isEmpty_b12 (0 : Int32)
  · exact Lf_X0_isEmpty_b12 (1 : Int32)
def p_X4_hasWay_b13 (s0 : Int32) : PM Int32 :=
    prtZ s0
set_option maxRecDepth 20000 in
theorem Lf_X4_hasWay_b13 {y : LY} {t0 mi : Nat} (s0 : Int32) : Lft y Eq (X4_hasWay_b13 t0 mi s0) (p_X4_hasWay_b13 s0) := by
  unfold X4_hasWay_b13 p_X4_hasWay_b13
  exact Lft_rtZ
def p_X4_hasWay (x0 : Nat) : PM Int32 :=
    pbnd (pgI 5 x0 9) fun v1 =>
    (if v1 = (-1 : Int32) then
    p_X4_hasWay_b13 (0 : Int32)
    else
    p_X4_hasWay_b13 (1 : Int32))
set_option maxRecDepth 20000 in
theorem Lf_f_X4_hasWay {y : LY} {t0 mi : Nat} (x0 : Nat) : Lft y Eq (f_X4_hasWay t0 mi (adO y 5 x0)) (p_X4_hasWay x0) := by
  unfold f_X4_hasWay p_X4_hasWay
  refine Lft_bnd (Lft_gI (fun F => rfl)) (fun v1 z9 e9 => ?_)
  subst e9
  refine Lft_if (fun _ => ?_) (fun _ => ?_)
  · exact Lf_X4_hasWay_b13 (0 : Int32)
  · exact Lf_X4_hasWay_b13 (1 : Int32)
def p_X4_arrival_b20 (s0 : Int32) : PM Int32 :=
    prt s0
set_option maxRecDepth 20000 in
theorem Lf_X4_arrival_b20 {y : LY} {t0 mi : Nat} (s0 : Int32) : Lft y Eq (X4_arrival_b20 t0 mi s0) (p_X4_arrival_b20 s0) := by
  unfold X4_arrival_b20 p_X4_arrival_b20
  exact Lft_rt rfl
def p_X4_arrival (x0 : Nat) : PM Int32 :=
    pbnd (pbnd (pchk 5 x0) fun _ => p_X4_hasWay x0) fun v1 =>
    (if v1 = 0 then
    p_X4_arrival_b20 (-1 : Int32)
    else
    pbnd (pgI 5 x0 9) fun v8 =>
    pbnd (pgI 5 x0 4) fun v12 =>
    p_X4_arrival_b20 (v8 + v12))
set_option maxRecDepth 20000 in
theorem Lf_f_X4_arrival {y : LY} {t0 mi : Nat} (x0 : Nat) : Lft y Eq (f_X4_arrival t0 mi (adO y 5 x0)) (p_X4_arrival x0) := by
  unfold f_X4_arrival p_X4_arrival
  refine Lft_bnd (Lft_vc (Lf_f_X4_hasWay x0)) (fun v1 z9 e9 => ?_)
  subst e9
  refine Lft_if (fun _ => ?_) (fun _ => ?_)
  · exact Lf_X4_arrival_b20 (-1 : Int32)
  · refine Lft_bnd (Lft_gI (fun F => rfl)) (fun v8 z9 e9 => ?_)
    subst e9
    refine Lft_bnd (Lft_gI (fun F => rfl)) (fun v12 z9 e9 => ?_)
    subst e9
    exact Lf_X4_arrival_b20 (v8 + v12)
def p_X4_hasArrivedBy_b20 (s0 : Int32) : PM Int32 :=
    prtZ s0
set_option maxRecDepth 20000 in
theorem Lf_X4_hasArrivedBy_b20 {y : LY} {t0 mi : Nat} (s0 : Int32) : Lft y Eq (X4_hasArrivedBy_b20 t0 mi s0) (p_X4_hasArrivedBy_b20 s0) := by
  unfold X4_hasArrivedBy_b20 p_X4_hasArrivedBy_b20
  exact Lft_rtZ
def p_X4_hasArrivedBy_b19 : PM Int32 :=
    p_X4_hasArrivedBy_b20 (0 : Int32)
set_option maxRecDepth 20000 in
theorem Lf_X4_hasArrivedBy_b19 {y : LY} {t0 mi : Nat} : Lft y Eq (X4_hasArrivedBy_b19 t0 mi) (p_X4_hasArrivedBy_b19) := by
  unfold X4_hasArrivedBy_b19 p_X4_hasArrivedBy_b19
  exact Lf_X4_hasArrivedBy_b20 (0 : Int32)
def p_X4_hasArrivedBy (x0 : Nat) (x1 : Int32) : PM Int32 :=
    pbnd (pbnd (pchk 5 x0) fun _ => p_X4_hasWay x0) fun v1 =>
    (if v1 = 0 then
    p_X4_hasArrivedBy_b19
    else
    pbnd (pbnd (pchk 5 x0) fun _ => p_X4_arrival x0) fun v8 =>
    (if x1 < v8 then
    p_X4_hasArrivedBy_b19
    else
    p_X4_hasArrivedBy_b20 (1 : Int32)))
set_option maxRecDepth 20000 in
theorem Lf_f_X4_hasArrivedBy {y : LY} {t0 mi : Nat} (x0 : Nat) (x1 : Int32) : Lft y Eq (f_X4_hasArrivedBy t0 mi (adO y 5 x0) x1) (p_X4_hasArrivedBy x0 x1) := by
  unfold f_X4_hasArrivedBy p_X4_hasArrivedBy
  refine Lft_bnd (Lft_vc (Lf_f_X4_hasWay x0)) (fun v1 z9 e9 => ?_)
  subst e9
  refine Lft_if (fun _ => ?_) (fun _ => ?_)
  · exact Lf_X4_hasArrivedBy_b19
  · refine Lft_bnd (Lft_vc (Lf_f_X4_arrival x0)) (fun v8 z9 e9 => ?_)
    subst e9
    refine Lft_if (fun _ => ?_) (fun _ => ?_)
    · exact Lf_X4_hasArrivedBy_b19
    · exact Lf_X4_hasArrivedBy_b20 (1 : Int32)
def p_X6_isBox_b17 (s0 : Int32) : PM Int32 :=
    prtZ s0
set_option maxRecDepth 20000 in
theorem Lf_X6_isBox_b17 {y : LY} {t0 mi : Nat} (s0 : Int32) : Lft y Eq (X6_isBox_b17 t0 mi s0) (p_X6_isBox_b17 s0) := by
  unfold X6_isBox_b17 p_X6_isBox_b17
  exact Lft_rtZ
def p_X6_isBox_b16 : PM Int32 :=
    p_X6_isBox_b17 (0 : Int32)
set_option maxRecDepth 20000 in
theorem Lf_X6_isBox_b16 {y : LY} {t0 mi : Nat} : Lft y Eq (X6_isBox_b16 t0 mi) (p_X6_isBox_b16) := by
  unfold X6_isBox_b16 p_X6_isBox_b16
  exact Lf_X6_isBox_b17 (0 : Int32)
def p_X6_isBox (x1 : Int32) : PM Int32 :=
    (if x1 < 0 then
    p_X6_isBox_b16
    else
    pbnd (pgI 7 0 4) fun v6 =>
    (if v6 ≤ x1 then
    p_X6_isBox_b16
    else
    p_X6_isBox_b17 (1 : Int32)))
set_option maxRecDepth 20000 in
theorem Lf_f_X6_isBox {y : LY} {t0 mi : Nat} (x1 : Int32) : Lft y Eq (f_X6_isBox t0 mi (adO y 7 0) x1) (p_X6_isBox x1) := by
  unfold f_X6_isBox p_X6_isBox
  refine Lft_if (fun _ => ?_) (fun _ => ?_)
  · exact Lf_X6_isBox_b16
  · refine Lft_bnd (Lft_gI (fun F => rfl)) (fun v6 z9 e9 => ?_)
    subst e9
    refine Lft_if (fun _ => ?_) (fun _ => ?_)
    · exact Lf_X6_isBox_b16
    · exact Lf_X6_isBox_b17 (1 : Int32)
def p_X6_arrives_b50 (s0 : Int32) : PM Int32 :=
    prt s0
set_option maxRecDepth 20000 in
theorem Lf_X6_arrives_b50 {y : LY} {t0 mi : Nat} (s0 : Int32) : Lft y Eq (X6_arrives_b50 t0 mi s0) (p_X6_arrives_b50 s0) := by
  unfold X6_arrives_b50 p_X6_arrives_b50
  exact Lft_rt rfl
def p_X6_arrives_b45 (s0 : Int32) (s1 : Int32) : PM Int32 :=
    p_X6_arrives_b50 (s1 + s0)
set_option maxRecDepth 20000 in
theorem Lf_X6_arrives_b45 {y : LY} {t0 mi : Nat} (s0 : Int32) (s1 : Int32) : Lft y Eq (X6_arrives_b45 t0 mi s0 s1) (p_X6_arrives_b45 s0 s1) := by
  unfold X6_arrives_b45 p_X6_arrives_b45
  exact Lf_X6_arrives_b50 (s1 + s0)
def p_X6_arrives (x1 : Int32) : PM Int32 :=
    pbnd (pbnd (pchk 7 0) fun _ => p_X6_wayOf x1) fun v2 =>
    pbnd (pchk 7 0) fun _ =>
    pbnd (pld 9 23 v2) fun v11 =>
    (if v11 = 0 then
    p_X6_arrives_b50 (-1 : Int32)
    else
    pbnd (pbnd (pchk 7 0) fun _ => p_X6_there v2 x1) fun v18 =>
    pbnd (pchk 7 0) fun _ =>
    pbnd (pld 9 21 x1) fun v26 =>
    (if v26 = 0 then
    pbnd (pchk 7 0) fun _ =>
    pbnd (pld 9 18 x1) fun v44 =>
    p_X6_arrives_b45 v44 v18
    else
    pbnd (pchk 7 0) fun _ =>
    pbnd (pld 9 15 x1) fun v35 =>
    p_X6_arrives_b45 v35 v18))
set_option maxRecDepth 20000 in
theorem Lf_f_X6_arrives {y : LY} {t0 mi : Nat} (x1 : Int32) : Lft y Eq (f_X6_arrives t0 mi (adO y 7 0) x1) (p_X6_arrives x1) := by
  unfold f_X6_arrives p_X6_arrives
  refine Lft_bnd (Lft_vc (Lf_f_X6_wayOf x1)) (fun v2 z9 e9 => ?_)
  subst e9
  refine Lft_bnd (Lft_gA (a := (adA y 9 23)) (fun F => rfl)) (fun v7 _ e9 => ?_)
  subst e9
  refine Lft_bnd (Lft_ld rfl) (fun v11 z9 e9 => ?_)
  subst e9
  refine Lft_if (fun _ => ?_) (fun _ => ?_)
  · exact Lf_X6_arrives_b50 (-1 : Int32)
  · refine Lft_bnd (Lft_vc (Lf_f_X6_there v2 x1)) (fun v18 z9 e9 => ?_)
    subst e9
    refine Lft_bnd (Lft_gA (a := (adA y 9 21)) (fun F => rfl)) (fun v22 _ e9 => ?_)
    subst e9
    refine Lft_bnd (Lft_ld rfl) (fun v26 z9 e9 => ?_)
    subst e9
    refine Lft_if (fun _ => ?_) (fun _ => ?_)
    · refine Lft_bnd (Lft_gA (a := (adA y 9 18)) (fun F => rfl)) (fun v40 _ e9 => ?_)
      subst e9
      refine Lft_bnd (Lft_ld rfl) (fun v44 z9 e9 => ?_)
      subst e9
      exact Lf_X6_arrives_b45 v44 v18
    · refine Lft_bnd (Lft_gA (a := (adA y 9 15)) (fun F => rfl)) (fun v31 _ e9 => ?_)
      subst e9
      refine Lft_bnd (Lft_ld rfl) (fun v35 z9 e9 => ?_)
      subst e9
      exact Lf_X6_arrives_b45 v35 v18
def p_X6_empty_b65 : PM Int32 :=
    prtZ (0 : Int32)
set_option maxRecDepth 20000 in
theorem Lf_X6_empty_b65 {y : LY} {t0 mi : Nat} : Lft y Eq (X6_empty_b65 t0 mi) (p_X6_empty_b65) := by
  unfold X6_empty_b65 p_X6_empty_b65
  exact Lft_rtZ
def p_X6_empty (x1 : Int32) (x2 : Int32) : PM Int32 :=
    pbnd (ppI 7 0 0 (0 : Int32)) fun _ =>
    pbnd (pbnd (pchk 7 0) fun _ => p_X6_isBox x1) fun v7 =>
    (if v7 = 0 then
    pbnd (pbnd (pchk 7 0) fun _ => p_X6_fail) fun v14 =>
    prtZ (0 : Int32)
    else
    pbnd (pchk 7 0) fun _ =>
    pbnd (pld 9 21 x1) fun v25 =>
    (if v25 = 0 then
    pbnd (pbnd (pchk 7 0) fun _ => p_X6_arrives x1) fun v31 =>
    (if v31 = (-1 : Int32) then
    p_X6_empty_b65
    else
    pbnd (pbnd (pchk 7 0) fun _ => p_X6_arrives x1) fun v40 =>
    pbnd (pgI 7 0 1) fun v44 =>
    (if v44 < v40 then
    p_X6_empty_b65
    else
    pbnd (pgI 7 0 1) fun v52 =>
    (if x2 < v52 then
    p_X6_empty_b65
    else
    (if x2 ≤ (1439 : Int32) then
    pbnd (pchk 7 0) fun _ =>
    pbnd (pstZ 9 21 x1 (1 : Int32)) fun _ =>
    pbnd (pchk 7 0) fun _ =>
    pbnd (pst 9 20 x1 x2) fun _ =>
    prtZ (1 : Int32)
    else
    p_X6_empty_b65))))
    else
    p_X6_empty_b65))
set_option maxRecDepth 20000 in
theorem Lf_f_X6_empty {y : LY} {t0 mi : Nat} (x1 : Int32) (x2 : Int32) : Lft y Eq (f_X6_empty t0 mi (adO y 7 0) x1 x2) (p_X6_empty x1 x2) := by
  unfold f_X6_empty p_X6_empty
  refine Lft_bnd (Lft_pI ⟨by decide, by decide⟩ (fun F => ⟨by simp [fds, u3], by simp [fds]⟩)) (fun _ _ _ => ?_)
  refine Lft_bnd (Lft_vc (Lf_f_X6_isBox x1)) (fun v7 z9 e9 => ?_)
  subst e9
  refine Lft_if (fun _ => ?_) (fun _ => ?_)
  · refine Lft_bnd (Lft_vc (Lf_f_X6_fail)) (fun v14 z9 e9 => ?_)
    subst e9
    exact Lft_rtZ
  · refine Lft_bnd (Lft_gA (a := (adA y 9 21)) (fun F => rfl)) (fun v21 _ e9 => ?_)
    subst e9
    refine Lft_bnd (Lft_ld rfl) (fun v25 z9 e9 => ?_)
    subst e9
    refine Lft_if (fun _ => ?_) (fun _ => ?_)
    · refine Lft_bnd (Lft_vc (Lf_f_X6_arrives x1)) (fun v31 z9 e9 => ?_)
      subst e9
      refine Lft_if (fun _ => ?_) (fun _ => ?_)
      · exact Lf_X6_empty_b65
      · refine Lft_bnd (Lft_vc (Lf_f_X6_arrives x1)) (fun v40 z9 e9 => ?_)
        subst e9
        refine Lft_bnd (Lft_gI (fun F => rfl)) (fun v44 z9 e9 => ?_)
        subst e9
        refine Lft_if (fun _ => ?_) (fun _ => ?_)
        · exact Lf_X6_empty_b65
        · refine Lft_bnd (Lft_gI (fun F => rfl)) (fun v52 z9 e9 => ?_)
          subst e9
          refine Lft_if (fun _ => ?_) (fun _ => ?_)
          · exact Lf_X6_empty_b65
          · refine Lft_if (fun _ => ?_) (fun _ => ?_)
            · refine Lft_bnd (Lft_gA (a := (adA y 9 21)) (fun F => rfl)) (fun v68 _ e9 => ?_)
              subst e9
              refine Lft_bnd (Lft_stZ rfl) (fun _ _ _ => ?_)
              refine Lft_bnd (Lft_gA (a := (adA y 9 20)) (fun F => rfl)) (fun v75 _ e9 => ?_)
              subst e9
              refine Lft_bnd (Lft_st rfl) (fun _ _ _ => ?_)
              exact Lft_rtZ
            · exact Lf_X6_empty_b65
    · exact Lf_X6_empty_b65
def p_X4_isGoneBy_b20 (s0 : Int32) : PM Int32 :=
    prtZ s0
set_option maxRecDepth 20000 in
theorem Lf_X4_isGoneBy_b20 {y : LY} {t0 mi : Nat} (s0 : Int32) : Lft y Eq (X4_isGoneBy_b20 t0 mi s0) (p_X4_isGoneBy_b20 s0) := by
  unfold X4_isGoneBy_b20 p_X4_isGoneBy_b20
  exact Lft_rtZ
def p_X4_isGoneBy_b19 : PM Int32 :=
    p_X4_isGoneBy_b20 (0 : Int32)
set_option maxRecDepth 20000 in
theorem Lf_X4_isGoneBy_b19 {y : LY} {t0 mi : Nat} : Lft y Eq (X4_isGoneBy_b19 t0 mi) (p_X4_isGoneBy_b19) := by
  unfold X4_isGoneBy_b19 p_X4_isGoneBy_b19
  exact Lf_X4_isGoneBy_b20 (0 : Int32)
def p_X4_isGoneBy (x0 : Nat) (x1 : Int32) : PM Int32 :=
    pbnd (pgI 5 x0 8) fun v1 =>
    (if v1 = 0 then
    p_X4_isGoneBy_b19
    else
    pbnd (pgI 5 x0 2) fun v8 =>
    (if x1 < v8 then
    p_X4_isGoneBy_b19
    else
    p_X4_isGoneBy_b20 (1 : Int32)))
set_option maxRecDepth 20000 in
theorem Lf_f_X4_isGoneBy {y : LY} {t0 mi : Nat} (x0 : Nat) (x1 : Int32) : Lft y Eq (f_X4_isGoneBy t0 mi (adO y 5 x0) x1) (p_X4_isGoneBy x0 x1) := by
  unfold f_X4_isGoneBy p_X4_isGoneBy
  refine Lft_bnd (Lft_gI (fun F => rfl)) (fun v1 z9 e9 => ?_)
  subst e9
  refine Lft_if (fun _ => ?_) (fun _ => ?_)
  · exact Lf_X4_isGoneBy_b19
  · refine Lft_bnd (Lft_gI (fun F => rfl)) (fun v8 z9 e9 => ?_)
    subst e9
    refine Lft_if (fun _ => ?_) (fun _ => ?_)
    · exact Lf_X4_isGoneBy_b19
    · exact Lf_X4_isGoneBy_b20 (1 : Int32)
def p_X5_asNumber_b9 (s0 : Int32) : PM Int32 :=
    prt s0
set_option maxRecDepth 20000 in
theorem Lf_X5_asNumber_b9 {y : LY} {t0 mi : Nat} (s0 : Int32) : Lft y Eq (X5_asNumber_b9 t0 mi s0) (p_X5_asNumber_b9 s0) := by
  unfold X5_asNumber_b9 p_X5_asNumber_b9
  exact Lft_rt rfl
def p_X5_asNumber (x0 : Int32) : PM Int32 :=
    (if x0 = 0 then
    p_X5_asNumber_b9 (0 : Int32)
    else
    p_X5_asNumber_b9 (1 : Int32))
set_option maxRecDepth 20000 in
theorem Lf_f_X5_asNumber {y : LY} {t0 mi : Nat} (x0 : Int32) : Lft y Eq (f_X5_asNumber t0 mi x0) (p_X5_asNumber x0) := by
  unfold f_X5_asNumber p_X5_asNumber
  refine Lft_if (fun _ => ?_) (fun _ => ?_)
  · exact Lf_X5_asNumber_b9 (0 : Int32)
  · exact Lf_X5_asNumber_b9 (1 : Int32)
def p_X4_isLate_b23 (s0 : Int32) : PM Int32 :=
    prtZ s0
set_option maxRecDepth 20000 in
theorem Lf_X4_isLate_b23 {y : LY} {t0 mi : Nat} (s0 : Int32) : Lft y Eq (X4_isLate_b23 t0 mi s0) (p_X4_isLate_b23 s0) := by
  unfold X4_isLate_b23 p_X4_isLate_b23
  exact Lft_rtZ
def p_X4_isLate_b22 : PM Int32 :=
    p_X4_isLate_b23 (0 : Int32)
set_option maxRecDepth 20000 in
theorem Lf_X4_isLate_b22 {y : LY} {t0 mi : Nat} : Lft y Eq (X4_isLate_b22 t0 mi) (p_X4_isLate_b22) := by
  unfold X4_isLate_b22 p_X4_isLate_b22
  exact Lf_X4_isLate_b23 (0 : Int32)
def p_X4_isLate (x0 : Nat) : PM Int32 :=
    pbnd (pbnd (pchk 5 x0) fun _ => p_X4_hasWay x0) fun v1 =>
    (if v1 = 0 then
    p_X4_isLate_b22
    else
    pbnd (pbnd (pchk 5 x0) fun _ => p_X4_arrival x0) fun v8 =>
    pbnd (pgI 5 x0 5) fun v12 =>
    (if v8 ≤ v12 then
    p_X4_isLate_b22
    else
    p_X4_isLate_b23 (1 : Int32)))
set_option maxRecDepth 20000 in
theorem Lf_f_X4_isLate {y : LY} {t0 mi : Nat} (x0 : Nat) : Lft y Eq (f_X4_isLate t0 mi (adO y 5 x0)) (p_X4_isLate x0) := by
  unfold f_X4_isLate p_X4_isLate
  refine Lft_bnd (Lft_vc (Lf_f_X4_hasWay x0)) (fun v1 z9 e9 => ?_)
  subst e9
  refine Lft_if (fun _ => ?_) (fun _ => ?_)
  · exact Lf_X4_isLate_b22
  · refine Lft_bnd (Lft_vc (Lf_f_X4_arrival x0)) (fun v8 z9 e9 => ?_)
    subst e9
    refine Lft_bnd (Lft_gI (fun F => rfl)) (fun v12 z9 e9 => ?_)
    subst e9
    refine Lft_if (fun _ => ?_) (fun _ => ?_)
    · exact Lf_X4_isLate_b22
    · exact Lf_X4_isLate_b23 (1 : Int32)
def p_X5_of (x1 : Int32) (x2 : Int32) : PM Int32 :=
    pbnd (pbnd (pchk 6 0) fun _ => p_X5_boxOf x1) fun v2 =>
    pbnd (pbnd (pchk 1 v2) fun _ => p_X0_current v2) fun v7 =>
    (if x2 = 0 then
    pbnd (pgI 5 v7 7) fun v58 =>
    prt v58
    else
    (if x2 = 1 then
    pbnd (pbnd (pchk 5 v7) fun _ => p_X4_arrival v7) fun v64 =>
    prt v64
    else
    (if x2 = 2 then
    pbnd (pgI 6 0 4) fun v71 =>
    pbnd (pbnd (pchk 5 v7) fun _ => p_X4_isGoneBy v7 v71) fun v74 =>
    pbnd (p_X5_asNumber v74) fun v77 =>
    prt v77
    else
    (if x2 = 3 then
    pbnd (pbnd (pchk 5 v7) fun _ => p_X4_isLate v7) fun v83 =>
    pbnd (p_X5_asNumber v83) fun v86 =>
    prt v86
    else
    (if x2 = 4 then
    pbnd (pgI 5 v7 10) fun v92 =>
    prt v92
    else
    (if x2 = 5 then
    pbnd (pgI 5 v7 11) fun v98 =>
    prt v98
    else
    (if x2 = 6 then
    pbnd (pbnd (pchk 1 v2) fun _ => p_X0_isEmpty v2) fun v103 =>
    pbnd (p_X5_asNumber v103) fun v106 =>
    prt v106
    else
    pthr "java/util/NoSuchElementException")))))))
set_option maxRecDepth 20000 in
theorem Lf_f_X5_of {y : LY} {t0 mi : Nat} (x1 : Int32) (x2 : Int32) : Lft y Eq (f_X5_of t0 mi (adO y 6 0) x1 x2) (p_X5_of x1 x2) := by
  unfold f_X5_of p_X5_of
  refine Lft_bnd (Lft_vc (Lf_f_X5_boxOf x1)) (fun x9 v2 e9 => ?_)
  subst e9
  refine Lft_bnd (Lft_vc (Lf_f_X0_current v2)) (fun x9 v7 e9 => ?_)
  subst e9
  refine Lft_if (fun _ => ?_) (fun _ => ?_)
  · refine Lft_bnd (Lft_gI (fun F => rfl)) (fun v58 z9 e9 => ?_)
    subst e9
    exact Lft_rt rfl
  · refine Lft_if (fun _ => ?_) (fun _ => ?_)
    · refine Lft_bnd (Lft_vc (Lf_f_X4_arrival v7)) (fun v64 z9 e9 => ?_)
      subst e9
      exact Lft_rt rfl
    · refine Lft_if (fun _ => ?_) (fun _ => ?_)
      · refine Lft_bnd (Lft_gI (fun F => rfl)) (fun v71 z9 e9 => ?_)
        subst e9
        refine Lft_bnd (Lft_vc (Lf_f_X4_isGoneBy v7 v71)) (fun v74 z9 e9 => ?_)
        subst e9
        refine Lft_bnd (Lf_f_X5_asNumber v74) (fun v77 z9 e9 => ?_)
        subst e9
        exact Lft_rt rfl
      · refine Lft_if (fun _ => ?_) (fun _ => ?_)
        · refine Lft_bnd (Lft_vc (Lf_f_X4_isLate v7)) (fun v83 z9 e9 => ?_)
          subst e9
          refine Lft_bnd (Lf_f_X5_asNumber v83) (fun v86 z9 e9 => ?_)
          subst e9
          exact Lft_rt rfl
        · refine Lft_if (fun _ => ?_) (fun _ => ?_)
          · refine Lft_bnd (Lft_gI (fun F => rfl)) (fun v92 z9 e9 => ?_)
            subst e9
            exact Lft_rt rfl
          · refine Lft_if (fun _ => ?_) (fun _ => ?_)
            · refine Lft_bnd (Lft_gI (fun F => rfl)) (fun v98 z9 e9 => ?_)
              subst e9
              exact Lft_rt rfl
            · refine Lft_if (fun _ => ?_) (fun _ => ?_)
              · refine Lft_bnd (Lft_vc (Lf_f_X0_isEmpty v2)) (fun v103 z9 e9 => ?_)
                subst e9
                refine Lft_bnd (Lf_f_X5_asNumber v103) (fun v106 z9 e9 => ?_)
                subst e9
                exact Lft_rt rfl
              · exact Lft_thr
