def p_X1_addCarrier (x1 : Int32) : PM Int32 :=
    pbnd (pgI 2 0 1) fun v1 =>
    (if v1 < (40 : Int32) then
    pbnd (pchk 2 0) fun _ =>
    pbnd (pgI 2 0 1) fun v16 =>
    pbnd (pst 1 0 v16 x1) fun _ =>
    pbnd (pgI 2 0 1) fun v23 =>
    pbnd (ppI 2 0 1 (v23 + (1 : Int32))) fun _ =>
    pbnd (pgI 2 0 1) fun v32 =>
    prt (v32 - (1 : Int32))
    else
    prt (-1 : Int32))
set_option maxRecDepth 20000 in
theorem Lf_f_X1_addCarrier {y : LY} {t0 mi : Nat} (x1 : Int32) : Lft y Eq (f_X1_addCarrier t0 mi (adO y 2 0) x1) (p_X1_addCarrier x1) := by
  unfold f_X1_addCarrier p_X1_addCarrier
  refine Lft_bnd (Lft_gI (fun F => rfl)) (fun v1 z9 e9 => ?_)
  subst e9
  refine Lft_if (fun _ => ?_) (fun _ => ?_)
  · refine Lft_bnd (Lft_gA (a := (adA y 1 0)) (fun F => rfl)) (fun v12 _ e9 => ?_)
    subst e9
    refine Lft_bnd (Lft_gI (fun F => rfl)) (fun v16 z9 e9 => ?_)
    subst e9
    refine Lft_bnd (Lft_st rfl) (fun _ _ _ => ?_)
    refine Lft_bnd (Lft_gI (fun F => rfl)) (fun v23 z9 e9 => ?_)
    subst e9
    refine Lft_bnd (Lft_pI ⟨by decide, by decide⟩ (fun F => ⟨by simp [fds, u3], by simp [fds]⟩)) (fun _ _ _ => ?_)
    refine Lft_bnd (Lft_gI (fun F => rfl)) (fun v32 z9 e9 => ?_)
    subst e9
    exact Lft_rt rfl
  · exact Lft_rt rfl
def p_X5_carrier_b21 (s0 : Int32) : PM Int32 :=
    prt s0
set_option maxRecDepth 20000 in
theorem Lf_X5_carrier_b21 {y : LY} {t0 mi : Nat} (s0 : Int32) : Lft y Eq (X5_carrier_b21 t0 mi s0) (p_X5_carrier_b21 s0) := by
  unfold X5_carrier_b21 p_X5_carrier_b21
  exact Lft_rt rfl
def p_X5_carrier (x1 : Int32) : PM Int32 :=
    pbnd (p_X5_isWithin x1 (31 : Int32)) fun v3 =>
    (if v3 = 0 then
    p_X5_carrier_b21 (-1 : Int32)
    else
    pbnd (pchk 6 0) fun _ =>
    pbnd (pbnd (pchk 2 0) fun _ => p_X1_addCarrier x1) fun v14 =>
    p_X5_carrier_b21 v14)
set_option maxRecDepth 20000 in
theorem Lf_f_X5_carrier {y : LY} {t0 mi : Nat} (x1 : Int32) : Lft y Eq (f_X5_carrier t0 mi (adO y 6 0) x1) (p_X5_carrier x1) := by
  unfold f_X5_carrier p_X5_carrier
  refine Lft_bnd (Lf_f_X5_isWithin x1 (31 : Int32)) (fun v3 z9 e9 => ?_)
  subst e9
  refine Lft_if (fun _ => ?_) (fun _ => ?_)
  · exact Lf_X5_carrier_b21 (-1 : Int32)
  · refine Lft_bnd (Lft_gA (a := (adO y 2 0)) (fun F => rfl)) (fun v10 _ e9 => ?_)
    subst e9
    refine Lft_bnd (Lft_vc (Lf_f_X1_addCarrier x1)) (fun v14 z9 e9 => ?_)
    subst e9
    exact Lf_X5_carrier_b21 v14
def p_X6_carrier_b24 : PM Int32 :=
    prt (-1 : Int32)
set_option maxRecDepth 20000 in
theorem Lf_X6_carrier_b24 {y : LY} {t0 mi : Nat} : Lft y Eq (X6_carrier_b24 t0 mi) (p_X6_carrier_b24) := by
  unfold X6_carrier_b24 p_X6_carrier_b24
  exact Lft_rt rfl
def p_X6_carrier (x1 : Int32) : PM Int32 :=
    pbnd (ppI 7 0 0 (0 : Int32)) fun _ =>
    pbnd (pgI 7 0 5) fun v6 =>
    (if v6 = (40 : Int32) then
    p_X6_carrier_b24
    else
    (if x1 < 0 then
    p_X6_carrier_b24
    else
    (if x1 ≤ (31 : Int32) then
    pbnd (pchk 7 0) fun _ =>
    pbnd (pgI 7 0 5) fun v31 =>
    pbnd (pst 9 12 v31 x1) fun _ =>
    pbnd (pgI 7 0 5) fun v38 =>
    pbnd (ppI 7 0 5 (v38 + (1 : Int32))) fun _ =>
    pbnd (pgI 7 0 5) fun v47 =>
    prt (v47 - (1 : Int32))
    else
    p_X6_carrier_b24)))
set_option maxRecDepth 20000 in
theorem Lf_f_X6_carrier {y : LY} {t0 mi : Nat} (x1 : Int32) : Lft y Eq (f_X6_carrier t0 mi (adO y 7 0) x1) (p_X6_carrier x1) := by
  unfold f_X6_carrier p_X6_carrier
  refine Lft_bnd (Lft_pI ⟨by decide, by decide⟩ (fun F => ⟨by simp [fds, u3], by simp [fds]⟩)) (fun _ _ _ => ?_)
  refine Lft_bnd (Lft_gI (fun F => rfl)) (fun v6 z9 e9 => ?_)
  subst e9
  refine Lft_if (fun _ => ?_) (fun _ => ?_)
  · exact Lf_X6_carrier_b24
  · refine Lft_if (fun _ => ?_) (fun _ => ?_)
    · exact Lf_X6_carrier_b24
    · refine Lft_if (fun _ => ?_) (fun _ => ?_)
      · refine Lft_bnd (Lft_gA (a := (adA y 9 12)) (fun F => rfl)) (fun v27 _ e9 => ?_)
        subst e9
        refine Lft_bnd (Lft_gI (fun F => rfl)) (fun v31 z9 e9 => ?_)
        subst e9
        refine Lft_bnd (Lft_st rfl) (fun _ _ _ => ?_)
        refine Lft_bnd (Lft_gI (fun F => rfl)) (fun v38 z9 e9 => ?_)
        subst e9
        refine Lft_bnd (Lft_pI ⟨by decide, by decide⟩ (fun F => ⟨by simp [fds, u3], by simp [fds]⟩)) (fun _ _ _ => ?_)
        refine Lft_bnd (Lft_gI (fun F => rfl)) (fun v47 z9 e9 => ?_)
        subst e9
        exact Lft_rt rfl
      · exact Lf_X6_carrier_b24
def p_X1_allDays_L4 (kx : Int32 → PM Int32) : Nat → Int32 → Int32 → PM Int32
  | 0, _, _ => pflr
  | n + 1, x1, x2 =>
    pbnd (pgI 2 0 1) fun v6 =>
    (if v6 ≤ x2 then
    kx x1
    else
    pbnd (pchk 2 0) fun _ =>
    pbnd (pld 1 0 x2) fun v18 =>
    p_X1_allDays_L4 kx n (x1 + v18) (x2 + 1))
set_option maxRecDepth 20000 in
theorem Lf_X1_allDays_L4 {y : LY} {t0 mi : Nat} (kx : Int32 → Mo Int32) (pkx : Int32 → PM Int32) (hkx : ∀ (z0 : Int32), Lft y Eq (kx z0) (pkx z0)) : ∀ (n : Nat) (x1 : Int32) (x2 : Int32), Lft y Eq (X1_allDays_L4 t0 mi (adO y 2 0) kx n x1 x2) (p_X1_allDays_L4 pkx n x1 x2) := by
  intro n
  induction n with
  | zero => intro x1 x2; rw [p_X1_allDays_L4]; exact Lft_flr
  | succ n ih =>
    intro x1 x2; rw [X1_allDays_L4, p_X1_allDays_L4]
    refine Lft_bnd (Lft_gI (fun F => rfl)) (fun v6 z9 e9 => ?_)
    subst e9
    refine Lft_if (fun _ => ?_) (fun _ => ?_)
    · exact hkx x1
    · refine Lft_bnd (Lft_gA (a := (adA y 1 0)) (fun F => rfl)) (fun v14 _ e9 => ?_)
      subst e9
      refine Lft_bnd (Lft_ld rfl) (fun v18 z9 e9 => ?_)
      subst e9
      exact ih (x1 + v18) (x2 + 1)
def p_X1_allDays : PM Int32 :=
    p_X1_allDays_L4 (fun y1_1 =>
    prt y1_1) FU (0 : Int32) (0 : Int32)
set_option maxRecDepth 20000 in
theorem Lf_f_X1_allDays {y : LY} {t0 mi : Nat} : Lft y Eq (f_X1_allDays t0 mi (adO y 2 0)) (p_X1_allDays) := by
  unfold f_X1_allDays p_X1_allDays
  refine Lf_X1_allDays_L4 _ _ (fun y1_1 => ?_) FU (0 : Int32) (0 : Int32)
  exact Lft_rt rfl
def p_X1_weighed_b16 (s0 : Int32) : PM Int32 :=
    prt s0
set_option maxRecDepth 20000 in
theorem Lf_X1_weighed_b16 {y : LY} {t0 mi : Nat} (s0 : Int32) : Lft y Eq (X1_weighed_b16 t0 mi s0) (p_X1_weighed_b16 s0) := by
  unfold X1_weighed_b16 p_X1_weighed_b16
  exact Lft_rt rfl
def p_X1_weighed (x1 : Int32) (x2 : Int32) (x3 : Int32) : PM Int32 :=
    (if x3 = 0 then
    pbnd (pchk 2 0) fun _ =>
    pbnd (pld 1 0 x1) fun v14 =>
    p_X1_weighed_b16 (x2 * v14)
    else
    p_X1_weighed_b16 x2)
set_option maxRecDepth 20000 in
theorem Lf_f_X1_weighed {y : LY} {t0 mi : Nat} (x1 : Int32) (x2 : Int32) (x3 : Int32) : Lft y Eq (f_X1_weighed t0 mi (adO y 2 0) x1 x2 x3) (p_X1_weighed x1 x2 x3) := by
  unfold f_X1_weighed p_X1_weighed
  refine Lft_if (fun _ => ?_) (fun _ => ?_)
  · refine Lft_bnd (Lft_gA (a := (adA y 1 0)) (fun F => rfl)) (fun v10 _ e9 => ?_)
    subst e9
    refine Lft_bnd (Lft_ld rfl) (fun v14 z9 e9 => ?_)
    subst e9
    exact Lf_X1_weighed_b16 (x2 * v14)
  · exact Lf_X1_weighed_b16 x2
def p_X1_partOf_b120 (kh60 : Int32 → Int32 → Int32 → PM Int32) (x1 : Int32) (x2 : Int32) (x4 : Int32) (x5 : Int32) (x6 : Int32) (x7 : Int32) (x8 : Int32) (x9 : Int32) : PM Int32 :=
    kh60 x6 x7 (x9 + 1)
set_option maxRecDepth 20000 in
theorem Lf_X1_partOf_b120 {y : LY} {t0 mi : Nat} (x1 : Int32) (x2 : Int32) (x4 : Int32) (x5 : Int32) (x6 : Int32) (x7 : Int32) (x8 : Int32) (x9 : Int32) (kh60 : Int32 → Int32 → Int32 → Mo Int32) (pkh60 : Int32 → Int32 → Int32 → PM Int32) (hkh60 : ∀ (z0 : Int32) (z1 : Int32) (z2 : Int32), Lft y Eq (kh60 z0 z1 z2) (pkh60 z0 z1 z2)) : Lft y Eq (X1_partOf_b120 t0 mi kh60 (adO y 2 0) x1 x2 x4 x5 x6 x7 x8 x9) (p_X1_partOf_b120 pkh60 x1 x2 x4 x5 x6 x7 x8 x9) := by
  unfold X1_partOf_b120 p_X1_partOf_b120
  exact hkh60 x6 x7 (x9 + 1)
def p_X1_partOf_b117 (kh60 : Int32 → Int32 → Int32 → PM Int32) (x1 : Int32) (x2 : Int32) (x4 : Int32) (x5 : Int32) (x6 : Int32) (x7 : Int32) (x8 : Int32) (x9 : Int32) : PM Int32 :=
    p_X1_partOf_b120 kh60 x1 x2 x4 x5 x6 (x7 + 1) x8 x9
set_option maxRecDepth 20000 in
theorem Lf_X1_partOf_b117 {y : LY} {t0 mi : Nat} (x1 : Int32) (x2 : Int32) (x4 : Int32) (x5 : Int32) (x6 : Int32) (x7 : Int32) (x8 : Int32) (x9 : Int32) (kh60 : Int32 → Int32 → Int32 → Mo Int32) (pkh60 : Int32 → Int32 → Int32 → PM Int32) (hkh60 : ∀ (z0 : Int32) (z1 : Int32) (z2 : Int32), Lft y Eq (kh60 z0 z1 z2) (pkh60 z0 z1 z2)) : Lft y Eq (X1_partOf_b117 t0 mi kh60 (adO y 2 0) x1 x2 x4 x5 x6 x7 x8 x9) (p_X1_partOf_b117 pkh60 x1 x2 x4 x5 x6 x7 x8 x9) := by
  unfold X1_partOf_b117 p_X1_partOf_b117
  exact Lf_X1_partOf_b120 x1 x2 x4 x5 x6 (x7 + 1) x8 x9 _ _ hkh60
def p_X1_partOf_L60 (x1 : Int32) (x2 : Int32) (x4 : Int32) (x5 : Int32) (x8 : Int32) (kx : Int32 → Int32 → PM Int32) : Nat → Int32 → Int32 → Int32 → PM Int32
  | 0, _, _, _ => pflr
  | n + 1, x6, x7, x9 =>
    pbnd (pgI 2 0 1) fun v63 =>
    (if v63 ≤ x9 then
    kx x6 x7
    else
    pbnd (pbnd (pchk 2 0) fun _ => p_X1_weighed x9 x2 x4) fun v75 =>
    pbnd (pdivI v75 x5) fun v86 =>
    pbnd (premI v75 x5) fun v94 =>
    (if x8 < v94 then
    p_X1_partOf_b117 (p_X1_partOf_L60 x1 x2 x4 x5 x8 kx n) x1 x2 x4 x5 (x6 - v86) x7 x8 x9
    else
    (if v94 = x8 then
    (if x1 ≤ x9 then
    p_X1_partOf_b120 (p_X1_partOf_L60 x1 x2 x4 x5 x8 kx n) x1 x2 x4 x5 (x6 - v86) x7 x8 x9
    else
    p_X1_partOf_b117 (p_X1_partOf_L60 x1 x2 x4 x5 x8 kx n) x1 x2 x4 x5 (x6 - v86) x7 x8 x9)
    else
    p_X1_partOf_b120 (p_X1_partOf_L60 x1 x2 x4 x5 x8 kx n) x1 x2 x4 x5 (x6 - v86) x7 x8 x9)))
set_option maxRecDepth 20000 in
theorem Lf_X1_partOf_L60 {y : LY} {t0 mi : Nat} (x1 : Int32) (x2 : Int32) (x4 : Int32) (x5 : Int32) (x8 : Int32) (kx : Int32 → Int32 → Mo Int32) (pkx : Int32 → Int32 → PM Int32) (hkx : ∀ (z0 : Int32) (z1 : Int32), Lft y Eq (kx z0 z1) (pkx z0 z1)) : ∀ (n : Nat) (x6 : Int32) (x7 : Int32) (x9 : Int32), Lft y Eq (X1_partOf_L60 t0 mi (adO y 2 0) x1 x2 x4 x5 x8 kx n x6 x7 x9) (p_X1_partOf_L60 x1 x2 x4 x5 x8 pkx n x6 x7 x9) := by
  intro n
  induction n with
  | zero => intro x6 x7 x9; rw [p_X1_partOf_L60]; exact Lft_flr
  | succ n ih =>
    intro x6 x7 x9; rw [X1_partOf_L60, p_X1_partOf_L60]
    refine Lft_bnd (Lft_gI (fun F => rfl)) (fun v63 z9 e9 => ?_)
    subst e9
    refine Lft_if (fun _ => ?_) (fun _ => ?_)
    · exact hkx x6 x7
    · refine Lft_bnd (Lft_vc (Lf_f_X1_weighed x9 x2 x4)) (fun v75 z9 e9 => ?_)
      subst e9
      refine Lft_bnd (Lft_divI) (fun v86 z9 e9 => ?_)
      subst e9
      refine Lft_bnd (Lft_remI) (fun v94 z9 e9 => ?_)
      subst e9
      refine Lft_if (fun _ => ?_) (fun _ => ?_)
      · exact Lf_X1_partOf_b117 x1 x2 x4 x5 (x6 - v86) x7 x8 x9 _ _ ih
      · refine Lft_if (fun _ => ?_) (fun _ => ?_)
        · refine Lft_if (fun _ => ?_) (fun _ => ?_)
          · exact Lf_X1_partOf_b120 x1 x2 x4 x5 (x6 - v86) x7 x8 x9 _ _ ih
          · exact Lf_X1_partOf_b117 x1 x2 x4 x5 (x6 - v86) x7 x8 x9 _ _ ih
        · exact Lf_X1_partOf_b120 x1 x2 x4 x5 (x6 - v86) x7 x8 x9 _ _ ih
def p_X1_partOf_b155 (s0 : Int32) : PM Int32 :=
    prt s0
set_option maxRecDepth 20000 in
theorem Lf_X1_partOf_b155 {y : LY} {t0 mi : Nat} (s0 : Int32) : Lft y Eq (X1_partOf_b155 t0 mi s0) (p_X1_partOf_b155 s0) := by
  unfold X1_partOf_b155 p_X1_partOf_b155
  exact Lft_rt rfl
def p_X1_partOf_b29 (x1 : Int32) (x2 : Int32) (x4 : Int32) (s0 : Int32) : PM Int32 :=
    (if 0 < s0 then
    pbnd (pbnd (pchk 2 0) fun _ => p_X1_weighed x1 x2 x4) fun v49 =>
    pbnd (premI v49 s0) fun v54 =>
    p_X1_partOf_L60 x1 x2 x4 s0 v54 (fun y1_6 y1_7 =>
    pbnd (pbnd (pchk 2 0) fun _ => p_X1_weighed x1 x2 x4) fun v131 =>
    pbnd (pdivI v131 s0) fun v136 =>
    (if y1_6 ≤ y1_7 then
    p_X1_partOf_b155 v136
    else
    p_X1_partOf_b155 (v136 + (1 : Int32)))) FU x2 (0 : Int32) (0 : Int32)
    else
    prt (0 : Int32))
set_option maxRecDepth 20000 in
theorem Lf_X1_partOf_b29 {y : LY} {t0 mi : Nat} (x1 : Int32) (x2 : Int32) (x4 : Int32) (s0 : Int32) : Lft y Eq (X1_partOf_b29 t0 mi (adO y 2 0) x1 x2 x4 s0) (p_X1_partOf_b29 x1 x2 x4 s0) := by
  unfold X1_partOf_b29 p_X1_partOf_b29
  refine Lft_if (fun _ => ?_) (fun _ => ?_)
  · refine Lft_bnd (Lft_vc (Lf_f_X1_weighed x1 x2 x4)) (fun v49 z9 e9 => ?_)
    subst e9
    refine Lft_bnd (Lft_remI) (fun v54 z9 e9 => ?_)
    subst e9
    refine Lf_X1_partOf_L60 x1 x2 x4 s0 v54 _ _ (fun y1_6 y1_7 => ?_) FU x2 (0 : Int32) (0 : Int32)
    refine Lft_bnd (Lft_vc (Lf_f_X1_weighed x1 x2 x4)) (fun v131 z9 e9 => ?_)
    subst e9
    refine Lft_bnd (Lft_divI) (fun v136 z9 e9 => ?_)
    subst e9
    refine Lft_if (fun _ => ?_) (fun _ => ?_)
    · exact Lf_X1_partOf_b155 v136
    · exact Lf_X1_partOf_b155 (v136 + (1 : Int32))
  · exact Lft_rt rfl
def p_X1_partOf_b14 (x1 : Int32) (x2 : Int32) (x3 : Int32) (s0 : Int32) : PM Int32 :=
    (if s0 = 0 then
    p_X1_partOf_b29 x1 x2 s0 x3
    else
    pbnd (pgI 2 0 1) fun v22 =>
    p_X1_partOf_b29 x1 x2 s0 v22)
set_option maxRecDepth 20000 in
theorem Lf_X1_partOf_b14 {y : LY} {t0 mi : Nat} (x1 : Int32) (x2 : Int32) (x3 : Int32) (s0 : Int32) : Lft y Eq (X1_partOf_b14 t0 mi (adO y 2 0) x1 x2 x3 s0) (p_X1_partOf_b14 x1 x2 x3 s0) := by
  unfold X1_partOf_b14 p_X1_partOf_b14
  refine Lft_if (fun _ => ?_) (fun _ => ?_)
  · exact Lf_X1_partOf_b29 x1 x2 s0 x3
  · refine Lft_bnd (Lft_gI (fun F => rfl)) (fun v22 z9 e9 => ?_)
    subst e9
    exact Lf_X1_partOf_b29 x1 x2 s0 v22
def p_X1_partOf (x1 : Int32) (x2 : Int32) : PM Int32 :=
    pbnd (pbnd (pchk 2 0) fun _ => p_X1_allDays) fun v1 =>
    (if v1 = 0 then
    p_X1_partOf_b14 x1 x2 v1 (1 : Int32)
    else
    p_X1_partOf_b14 x1 x2 v1 (0 : Int32))
set_option maxRecDepth 20000 in
theorem Lf_f_X1_partOf {y : LY} {t0 mi : Nat} (x1 : Int32) (x2 : Int32) : Lft y Eq (f_X1_partOf t0 mi (adO y 2 0) x1 x2) (p_X1_partOf x1 x2) := by
  unfold f_X1_partOf p_X1_partOf
  refine Lft_bnd (Lft_vc (Lf_f_X1_allDays)) (fun v1 z9 e9 => ?_)
  subst e9
  refine Lft_if (fun _ => ?_) (fun _ => ?_)
  · exact Lf_X1_partOf_b14 x1 x2 v1 (1 : Int32)
  · exact Lf_X1_partOf_b14 x1 x2 v1 (0 : Int32)
def p_X5_share_b15 : PM Int32 :=
    pthr "java/util/NoSuchElementException"
set_option maxRecDepth 20000 in
theorem Lf_X5_share_b15 {y : LY} {t0 mi : Nat} : Lft y Eq (X5_share_b15 t0 mi) (p_X5_share_b15) := by
  unfold X5_share_b15 p_X5_share_b15
  exact Lft_thr
def p_X5_share (x1 : Int32) (x2 : Int32) : PM Int32 :=
    (if x1 < 0 then
    p_X5_share_b15
    else
    pbnd (pchk 6 0) fun _ =>
    pbnd (pgI 2 0 1) fun v9 =>
    (if x1 < v9 then
    pbnd (p_X5_isWithin x2 (10000000 : Int32)) fun v28 =>
    (if v28 = 0 then
    pthr "java/lang/IllegalArgumentException"
    else
    pbnd (pchk 6 0) fun _ =>
    pbnd (pbnd (pchk 2 0) fun _ => p_X1_partOf x1 x2) fun v50 =>
    prt v50)
    else
    p_X5_share_b15))
set_option maxRecDepth 20000 in
theorem Lf_f_X5_share {y : LY} {t0 mi : Nat} (x1 : Int32) (x2 : Int32) : Lft y Eq (f_X5_share t0 mi (adO y 6 0) x1 x2) (p_X5_share x1 x2) := by
  unfold f_X5_share p_X5_share
  refine Lft_if (fun _ => ?_) (fun _ => ?_)
  · exact Lf_X5_share_b15
  · refine Lft_bnd (Lft_gA (a := (adO y 2 0)) (fun F => rfl)) (fun v6 _ e9 => ?_)
    subst e9
    refine Lft_bnd (Lft_gI (fun F => rfl)) (fun v9 z9 e9 => ?_)
    subst e9
    refine Lft_if (fun _ => ?_) (fun _ => ?_)
    · refine Lft_bnd (Lf_f_X5_isWithin x2 (10000000 : Int32)) (fun v28 z9 e9 => ?_)
      subst e9
      refine Lft_if (fun _ => ?_) (fun _ => ?_)
      · exact Lft_thr
      · refine Lft_bnd (Lft_gA (a := (adO y 2 0)) (fun F => rfl)) (fun v45 _ e9 => ?_)
        subst e9
        refine Lft_bnd (Lft_vc (Lf_f_X1_partOf x1 x2)) (fun v50 z9 e9 => ?_)
        subst e9
        exact Lft_rt rfl
    · exact Lf_X5_share_b15
def p_L_share (x1 : Int32) (x2 : Int32) : PM Int32 :=
    pctc (pbnd (pchk 6 0) fun _ => p_X5_share x1 x2) (fun v5 =>
    pbnd (pstO (0 : Int32) v5.toInt64) fun _ =>
    prt (0 : Int32)) (fun E =>
    (if E = "java/util/NoSuchElementException" then
    prt (1 : Int32)
    else
    (if E = "java/lang/IllegalArgumentException" then
    prt (2 : Int32)
    else
    pflr)))
set_option maxRecDepth 20000 in
theorem Lf_f_L_share {y : LY} {t0 mi : Nat} (x1 : Int32) (x2 : Int32) : Lft y Eq (f_L_share t0 mi (adO y 6 0) x1 x2 (yB y + 45)) (p_L_share x1 x2) := by
  unfold f_L_share p_L_share
  refine Lft_ctc (Lft_vc (Lf_f_X5_share x1 x2)) (fun v5 z9 e9 => ?_) (fun E => ?_)
  · subst e9
    refine Lft_bnd (Lft_stO) (fun _ _ _ => ?_)
    exact Lft_rt rfl
  · refine Lft_if (fun _ => ?_) (fun _ => ?_)
    · exact Lft_rt rfl
    · refine Lft_if (fun _ => ?_) (fun _ => ?_)
      · exact Lft_rt rfl
      · exact Lft_flr
def p_X6_share_b17 : PM Int32 :=
    pbnd (pbnd (pchk 7 0) fun _ => p_X6_fail) fun v18 =>
    prt v18
set_option maxRecDepth 20000 in
theorem Lf_X6_share_b17 {y : LY} {t0 mi : Nat} : Lft y Eq (X6_share_b17 t0 mi (adO y 7 0)) (p_X6_share_b17) := by
  unfold X6_share_b17 p_X6_share_b17
  refine Lft_bnd (Lft_vc (Lf_f_X6_fail)) (fun v18 z9 e9 => ?_)
  subst e9
  exact Lft_rt rfl
def p_X6_share_b32 : PM Int32 :=
    pbnd (ppI 7 0 0 (2 : Int32)) fun _ =>
    prt (0 : Int32)
set_option maxRecDepth 20000 in
theorem Lf_X6_share_b32 {y : LY} {t0 mi : Nat} : Lft y Eq (X6_share_b32 t0 mi (adO y 7 0)) (p_X6_share_b32) := by
  unfold X6_share_b32 p_X6_share_b32
  refine Lft_bnd (Lft_pI ⟨by decide, by decide⟩ (fun F => ⟨by simp [fds, u3], by simp [fds]⟩)) (fun _ _ _ => ?_)
  exact Lft_rt rfl
def p_X6_share_L44 (x1 : Int32) (x2 : Int32) (kx : Int32 → PM Int32) : Nat → Int32 → Int32 → PM Int32
  | 0, _, _ => pflr
  | n + 1, x3, x4 =>
    pbnd (pgI 7 0 5) fun v47 =>
    (if v47 ≤ x4 then
    kx x3
    else
    pbnd (pchk 7 0) fun _ =>
    pbnd (pld 9 12 x4) fun v60 =>
    p_X6_share_L44 x1 x2 kx n (x3 + v60) (x4 + 1))
set_option maxRecDepth 20000 in
theorem Lf_X6_share_L44 {y : LY} {t0 mi : Nat} (x1 : Int32) (x2 : Int32) (kx : Int32 → Mo Int32) (pkx : Int32 → PM Int32) (hkx : ∀ (z0 : Int32), Lft y Eq (kx z0) (pkx z0)) : ∀ (n : Nat) (x3 : Int32) (x4 : Int32), Lft y Eq (X6_share_L44 t0 mi (adO y 7 0) x1 x2 kx n x3 x4) (p_X6_share_L44 x1 x2 pkx n x3 x4) := by
  intro n
  induction n with
  | zero => intro x3 x4; rw [p_X6_share_L44]; exact Lft_flr
  | succ n ih =>
    intro x3 x4; rw [X6_share_L44, p_X6_share_L44]
    refine Lft_bnd (Lft_gI (fun F => rfl)) (fun v47 z9 e9 => ?_)
    subst e9
    refine Lft_if (fun _ => ?_) (fun _ => ?_)
    · exact hkx x3
    · refine Lft_bnd (Lft_gA (a := (adA y 9 12)) (fun F => rfl)) (fun v55 _ e9 => ?_)
      subst e9
      refine Lft_bnd (Lft_ld rfl) (fun v60 z9 e9 => ?_)
      subst e9
      exact ih (x3 + v60) (x4 + 1)
def p_X6_share_b125 (kh96 : Int32 → Int32 → PM Int32) (x1 : Int32) (x2 : Int32) (x3 : Int32) (x4 : Int32) (x6 : Int32) (s0 : Int32) (s1 : Int64) (s2 : Int32) : PM Int32 :=
    pbnd (pdivL (s1 * s0.toInt64) x3.toInt64) fun v129 =>
    kh96 (s2 - v129.toInt32) (x6 + 1)
set_option maxRecDepth 20000 in
theorem Lf_X6_share_b125 {y : LY} {t0 mi : Nat} (x1 : Int32) (x2 : Int32) (x3 : Int32) (x4 : Int32) (x6 : Int32) (s0 : Int32) (s1 : Int64) (s2 : Int32) (kh96 : Int32 → Int32 → Mo Int32) (pkh96 : Int32 → Int32 → PM Int32) (hkh96 : ∀ (z0 : Int32) (z1 : Int32), Lft y Eq (kh96 z0 z1) (pkh96 z0 z1)) : Lft y Eq (X6_share_b125 t0 mi kh96 (adO y 7 0) x1 x2 x3 x4 x6 s0 s1 s2) (p_X6_share_b125 pkh96 x1 x2 x3 x4 x6 s0 s1 s2) := by
  unfold X6_share_b125 p_X6_share_b125
  refine Lft_bnd (Lft_divL) (fun v129 z9 e9 => ?_)
  subst e9
  exact hkh96 (s2 - v129.toInt32) (x6 + 1)
def p_X6_share_L96 (x1 : Int32) (x2 : Int32) (x3 : Int32) (x4 : Int32) (kx : Int32 → PM Int32) : Nat → Int32 → Int32 → PM Int32
  | 0, _, _ => pflr
  | n + 1, x5, x6 =>
    pbnd (pgI 7 0 5) fun v99 =>
    (if v99 ≤ x6 then
    kx x5
    else
    (if x4 = 0 then
    pbnd (pchk 7 0) fun _ =>
    pbnd (pld 9 12 x6) fun v124 =>
    p_X6_share_b125 (p_X6_share_L96 x1 x2 x3 x4 kx n) x1 x2 x3 x4 x6 v124 x2.toInt64 x5
    else
    p_X6_share_b125 (p_X6_share_L96 x1 x2 x3 x4 kx n) x1 x2 x3 x4 x6 (1 : Int32) x2.toInt64 x5))
set_option maxRecDepth 20000 in
theorem Lf_X6_share_L96 {y : LY} {t0 mi : Nat} (x1 : Int32) (x2 : Int32) (x3 : Int32) (x4 : Int32) (kx : Int32 → Mo Int32) (pkx : Int32 → PM Int32) (hkx : ∀ (z0 : Int32), Lft y Eq (kx z0) (pkx z0)) : ∀ (n : Nat) (x5 : Int32) (x6 : Int32), Lft y Eq (X6_share_L96 t0 mi (adO y 7 0) x1 x2 x3 x4 kx n x5 x6) (p_X6_share_L96 x1 x2 x3 x4 pkx n x5 x6) := by
  intro n
  induction n with
  | zero => intro x5 x6; rw [p_X6_share_L96]; exact Lft_flr
  | succ n ih =>
    intro x5 x6; rw [X6_share_L96, p_X6_share_L96]
    refine Lft_bnd (Lft_gI (fun F => rfl)) (fun v99 z9 e9 => ?_)
    subst e9
    refine Lft_if (fun _ => ?_) (fun _ => ?_)
    · exact hkx x5
    · refine Lft_if (fun _ => ?_) (fun _ => ?_)
      · refine Lft_bnd (Lft_gA (a := (adA y 9 12)) (fun F => rfl)) (fun v119 _ e9 => ?_)
        subst e9
        refine Lft_bnd (Lft_ld rfl) (fun v124 z9 e9 => ?_)
        subst e9
        exact Lf_X6_share_b125 x1 x2 x3 x4 x6 v124 x2.toInt64 x5 _ _ ih
      · exact Lf_X6_share_b125 x1 x2 x3 x4 x6 (1 : Int32) x2.toInt64 x5 _ _ ih
def p_X6_share_b232 (kh167 : Int32 → Int32 → PM Int32) (x1 : Int32) (x2 : Int32) (x3 : Int32) (x4 : Int32) (x5 : Int32) (x6 : Int64) (x8 : Int32) (x9 : Int32) : PM Int32 :=
    kh167 x8 (x9 + 1)
set_option maxRecDepth 20000 in
theorem Lf_X6_share_b232 {y : LY} {t0 mi : Nat} (x1 : Int32) (x2 : Int32) (x3 : Int32) (x4 : Int32) (x5 : Int32) (x6 : Int64) (x8 : Int32) (x9 : Int32) (kh167 : Int32 → Int32 → Mo Int32) (pkh167 : Int32 → Int32 → PM Int32) (hkh167 : ∀ (z0 : Int32) (z1 : Int32), Lft y Eq (kh167 z0 z1) (pkh167 z0 z1)) : Lft y Eq (X6_share_b232 t0 mi kh167 (adO y 7 0) x1 x2 x3 x4 x5 x6 x8 x9) (p_X6_share_b232 pkh167 x1 x2 x3 x4 x5 x6 x8 x9) := by
  unfold X6_share_b232 p_X6_share_b232
  exact hkh167 x8 (x9 + 1)
def p_X6_share_b229 (kh167 : Int32 → Int32 → PM Int32) (x1 : Int32) (x2 : Int32) (x3 : Int32) (x4 : Int32) (x5 : Int32) (x6 : Int64) (x8 : Int32) (x9 : Int32) : PM Int32 :=
    p_X6_share_b232 kh167 x1 x2 x3 x4 x5 x6 (x8 + 1) x9
set_option maxRecDepth 20000 in
theorem Lf_X6_share_b229 {y : LY} {t0 mi : Nat} (x1 : Int32) (x2 : Int32) (x3 : Int32) (x4 : Int32) (x5 : Int32) (x6 : Int64) (x8 : Int32) (x9 : Int32) (kh167 : Int32 → Int32 → Mo Int32) (pkh167 : Int32 → Int32 → PM Int32) (hkh167 : ∀ (z0 : Int32) (z1 : Int32), Lft y Eq (kh167 z0 z1) (pkh167 z0 z1)) : Lft y Eq (X6_share_b229 t0 mi kh167 (adO y 7 0) x1 x2 x3 x4 x5 x6 x8 x9) (p_X6_share_b229 pkh167 x1 x2 x3 x4 x5 x6 x8 x9) := by
  unfold X6_share_b229 p_X6_share_b229
  exact Lf_X6_share_b232 x1 x2 x3 x4 x5 x6 (x8 + 1) x9 _ _ hkh167
def p_X6_share_b194 (kh167 : Int32 → Int32 → PM Int32) (x1 : Int32) (x2 : Int32) (x3 : Int32) (x4 : Int32) (x5 : Int32) (x6 : Int64) (x8 : Int32) (x9 : Int32) (s0 : Int32) (s1 : Int64) : PM Int32 :=
    pbnd (premL (s1 * s0.toInt64) x3.toInt64) fun v198 =>
    pbnd (premL x6 x3.toInt64) fun v207 =>
    (if 0 < (lg_cmp v198 v207) then
    p_X6_share_b229 kh167 x1 x2 x3 x4 x5 x6 x8 x9
    else
    pbnd (premL x6 x3.toInt64) fun v218 =>
    (if (lg_cmp v198 v218) = 0 then
    (if x1 ≤ x9 then
    p_X6_share_b232 kh167 x1 x2 x3 x4 x5 x6 x8 x9
    else
    p_X6_share_b229 kh167 x1 x2 x3 x4 x5 x6 x8 x9)
    else
    p_X6_share_b232 kh167 x1 x2 x3 x4 x5 x6 x8 x9))
set_option maxRecDepth 20000 in
theorem Lf_X6_share_b194 {y : LY} {t0 mi : Nat} (x1 : Int32) (x2 : Int32) (x3 : Int32) (x4 : Int32) (x5 : Int32) (x6 : Int64) (x8 : Int32) (x9 : Int32) (s0 : Int32) (s1 : Int64) (kh167 : Int32 → Int32 → Mo Int32) (pkh167 : Int32 → Int32 → PM Int32) (hkh167 : ∀ (z0 : Int32) (z1 : Int32), Lft y Eq (kh167 z0 z1) (pkh167 z0 z1)) : Lft y Eq (X6_share_b194 t0 mi kh167 (adO y 7 0) x1 x2 x3 x4 x5 x6 x8 x9 s0 s1) (p_X6_share_b194 pkh167 x1 x2 x3 x4 x5 x6 x8 x9 s0 s1) := by
  unfold X6_share_b194 p_X6_share_b194
  refine Lft_bnd (Lft_remL) (fun v198 z9 e9 => ?_)
  subst e9
  refine Lft_bnd (Lft_remL) (fun v207 z9 e9 => ?_)
  subst e9
  refine Lft_if (fun _ => ?_) (fun _ => ?_)
  · exact Lf_X6_share_b229 x1 x2 x3 x4 x5 x6 x8 x9 _ _ hkh167
  · refine Lft_bnd (Lft_remL) (fun v218 z9 e9 => ?_)
    subst e9
    refine Lft_if (fun _ => ?_) (fun _ => ?_)
    · refine Lft_if (fun _ => ?_) (fun _ => ?_)
      · exact Lf_X6_share_b232 x1 x2 x3 x4 x5 x6 x8 x9 _ _ hkh167
      · exact Lf_X6_share_b229 x1 x2 x3 x4 x5 x6 x8 x9 _ _ hkh167
    · exact Lf_X6_share_b232 x1 x2 x3 x4 x5 x6 x8 x9 _ _ hkh167
def p_X6_share_L167 (x1 : Int32) (x2 : Int32) (x3 : Int32) (x4 : Int32) (x5 : Int32) (x6 : Int64) (kx : Int32 → PM Int32) : Nat → Int32 → Int32 → PM Int32
  | 0, _, _ => pflr
  | n + 1, x8, x9 =>
    pbnd (pgI 7 0 5) fun v170 =>
    (if v170 ≤ x9 then
    kx x8
    else
    (if x4 = 0 then
    pbnd (pchk 7 0) fun _ =>
    pbnd (pld 9 12 x9) fun v193 =>
    p_X6_share_b194 (p_X6_share_L167 x1 x2 x3 x4 x5 x6 kx n) x1 x2 x3 x4 x5 x6 x8 x9 v193 x2.toInt64
    else
    p_X6_share_b194 (p_X6_share_L167 x1 x2 x3 x4 x5 x6 kx n) x1 x2 x3 x4 x5 x6 x8 x9 (1 : Int32) x2.toInt64))
set_option maxRecDepth 20000 in
theorem Lf_X6_share_L167 {y : LY} {t0 mi : Nat} (x1 : Int32) (x2 : Int32) (x3 : Int32) (x4 : Int32) (x5 : Int32) (x6 : Int64) (kx : Int32 → Mo Int32) (pkx : Int32 → PM Int32) (hkx : ∀ (z0 : Int32), Lft y Eq (kx z0) (pkx z0)) : ∀ (n : Nat) (x8 : Int32) (x9 : Int32), Lft y Eq (X6_share_L167 t0 mi (adO y 7 0) x1 x2 x3 x4 x5 x6 kx n x8 x9) (p_X6_share_L167 x1 x2 x3 x4 x5 x6 pkx n x8 x9) := by
  intro n
  induction n with
  | zero => intro x8 x9; rw [p_X6_share_L167]; exact Lft_flr
  | succ n ih =>
    intro x8 x9; rw [X6_share_L167, p_X6_share_L167]
    refine Lft_bnd (Lft_gI (fun F => rfl)) (fun v170 z9 e9 => ?_)
    subst e9
    refine Lft_if (fun _ => ?_) (fun _ => ?_)
    · exact hkx x8
    · refine Lft_if (fun _ => ?_) (fun _ => ?_)
      · refine Lft_bnd (Lft_gA (a := (adA y 9 12)) (fun F => rfl)) (fun v188 _ e9 => ?_)
        subst e9
        refine Lft_bnd (Lft_ld rfl) (fun v193 z9 e9 => ?_)
        subst e9
        exact Lf_X6_share_b194 x1 x2 x3 x4 x5 x6 x8 x9 v193 x2.toInt64 _ _ ih
      · exact Lf_X6_share_b194 x1 x2 x3 x4 x5 x6 x8 x9 (1 : Int32) x2.toInt64 _ _ ih
def p_X6_share_b256 (s0 : Int32) (s1 : Int32) : PM Int32 :=
    prt (s1 + s0)
set_option maxRecDepth 20000 in
theorem Lf_X6_share_b256 {y : LY} {t0 mi : Nat} (s0 : Int32) (s1 : Int32) : Lft y Eq (X6_share_b256 t0 mi s0 s1) (p_X6_share_b256 s0 s1) := by
  unfold X6_share_b256 p_X6_share_b256
  exact Lft_rt rfl
def p_X6_share_b157 (x1 : Int32) (x2 : Int32) (x3 : Int32) (x4 : Int32) (x5 : Int32) (s0 : Int32) (s1 : Int64) : PM Int32 :=
    p_X6_share_L167 x1 x2 x3 x4 x5 (s1 * s0.toInt64) (fun y3_8 =>
    pbnd (pdivL (s1 * s0.toInt64) x3.toInt64) fun v242 =>
    (if x5 ≤ y3_8 then
    p_X6_share_b256 (0 : Int32) v242.toInt32
    else
    p_X6_share_b256 (1 : Int32) v242.toInt32)) FU (0 : Int32) (0 : Int32)
set_option maxRecDepth 20000 in
theorem Lf_X6_share_b157 {y : LY} {t0 mi : Nat} (x1 : Int32) (x2 : Int32) (x3 : Int32) (x4 : Int32) (x5 : Int32) (s0 : Int32) (s1 : Int64) : Lft y Eq (X6_share_b157 t0 mi (adO y 7 0) x1 x2 x3 x4 x5 s0 s1) (p_X6_share_b157 x1 x2 x3 x4 x5 s0 s1) := by
  unfold X6_share_b157 p_X6_share_b157
  refine Lf_X6_share_L167 x1 x2 x3 x4 x5 (s1 * s0.toInt64) _ _ (fun y3_8 => ?_) FU (0 : Int32) (0 : Int32)
  refine Lft_bnd (Lft_divL) (fun v242 z9 e9 => ?_)
  subst e9
  refine Lft_if (fun _ => ?_) (fun _ => ?_)
  · exact Lf_X6_share_b256 (0 : Int32) v242.toInt32
  · exact Lf_X6_share_b256 (1 : Int32) v242.toInt32
def p_X6_share_b90 (x1 : Int32) (x2 : Int32) (x3 : Int32) (x4 : Int32) : PM Int32 :=
    p_X6_share_L96 x1 x2 x3 x4 (fun y2_5 =>
    (if x4 = 0 then
    pbnd (pchk 7 0) fun _ =>
    pbnd (pld 9 12 x1) fun v156 =>
    p_X6_share_b157 x1 x2 x3 x4 y2_5 v156 x2.toInt64
    else
    p_X6_share_b157 x1 x2 x3 x4 y2_5 (1 : Int32) x2.toInt64)) FU x2 (0 : Int32)
set_option maxRecDepth 20000 in
theorem Lf_X6_share_b90 {y : LY} {t0 mi : Nat} (x1 : Int32) (x2 : Int32) (x3 : Int32) (x4 : Int32) : Lft y Eq (X6_share_b90 t0 mi (adO y 7 0) x1 x2 x3 x4) (p_X6_share_b90 x1 x2 x3 x4) := by
  unfold X6_share_b90 p_X6_share_b90
  refine Lf_X6_share_L96 x1 x2 x3 x4 _ _ (fun y2_5 => ?_) FU x2 (0 : Int32)
  refine Lft_if (fun _ => ?_) (fun _ => ?_)
  · refine Lft_bnd (Lft_gA (a := (adA y 9 12)) (fun F => rfl)) (fun v152 _ e9 => ?_)
    subst e9
    refine Lft_bnd (Lft_ld rfl) (fun v156 z9 e9 => ?_)
    subst e9
    exact Lf_X6_share_b157 x1 x2 x3 x4 y2_5 v156 x2.toInt64
  · exact Lf_X6_share_b157 x1 x2 x3 x4 y2_5 (1 : Int32) x2.toInt64
def p_X6_share_b78 (x1 : Int32) (x2 : Int32) (x3 : Int32) (s0 : Int32) : PM Int32 :=
    (if s0 = 0 then
    p_X6_share_b90 x1 x2 x3 s0
    else
    pbnd (pgI 7 0 5) fun v86 =>
    p_X6_share_b90 x1 x2 v86 s0)
set_option maxRecDepth 20000 in
theorem Lf_X6_share_b78 {y : LY} {t0 mi : Nat} (x1 : Int32) (x2 : Int32) (x3 : Int32) (s0 : Int32) : Lft y Eq (X6_share_b78 t0 mi (adO y 7 0) x1 x2 x3 s0) (p_X6_share_b78 x1 x2 x3 s0) := by
  unfold X6_share_b78 p_X6_share_b78
  refine Lft_if (fun _ => ?_) (fun _ => ?_)
  · exact Lf_X6_share_b90 x1 x2 x3 s0
  · refine Lft_bnd (Lft_gI (fun F => rfl)) (fun v86 z9 e9 => ?_)
    subst e9
    exact Lf_X6_share_b90 x1 x2 v86 s0
def p_X6_share (x1 : Int32) (x2 : Int32) : PM Int32 :=
    pbnd (ppI 7 0 0 (0 : Int32)) fun _ =>
    (if x1 < 0 then
    p_X6_share_b17
    else
    pbnd (pgI 7 0 5) fun v11 =>
    (if x1 < v11 then
    (if x2 < 0 then
    p_X6_share_b32
    else
    (if x2 ≤ (10000000 : Int32) then
    p_X6_share_L44 x1 x2 (fun y1_3 =>
    (if y1_3 = 0 then
    p_X6_share_b78 x1 x2 y1_3 (1 : Int32)
    else
    p_X6_share_b78 x1 x2 y1_3 (0 : Int32))) FU (0 : Int32) (0 : Int32)
    else
    p_X6_share_b32))
    else
    p_X6_share_b17))
set_option maxRecDepth 20000 in
theorem Lf_f_X6_share {y : LY} {t0 mi : Nat} (x1 : Int32) (x2 : Int32) : Lft y Eq (f_X6_share t0 mi (adO y 7 0) x1 x2) (p_X6_share x1 x2) := by
  unfold f_X6_share p_X6_share
  refine Lft_bnd (Lft_pI ⟨by decide, by decide⟩ (fun F => ⟨by simp [fds, u3], by simp [fds]⟩)) (fun _ _ _ => ?_)
  refine Lft_if (fun _ => ?_) (fun _ => ?_)
  · exact Lf_X6_share_b17
  · refine Lft_bnd (Lft_gI (fun F => rfl)) (fun v11 z9 e9 => ?_)
    subst e9
    refine Lft_if (fun _ => ?_) (fun _ => ?_)
    · refine Lft_if (fun _ => ?_) (fun _ => ?_)
      · exact Lf_X6_share_b32
      · refine Lft_if (fun _ => ?_) (fun _ => ?_)
        · refine Lf_X6_share_L44 x1 x2 _ _ (fun y1_3 => ?_) FU (0 : Int32) (0 : Int32)
          refine Lft_if (fun _ => ?_) (fun _ => ?_)
          · exact Lf_X6_share_b78 x1 x2 y1_3 (1 : Int32)
          · exact Lf_X6_share_b78 x1 x2 y1_3 (0 : Int32)
        · exact Lf_X6_share_b32
    · exact Lf_X6_share_b17
def p_X5_boxesWithWay_b38 (kh4 : Int32 → Int32 → PM Int32) (x1 : Int32) (x2 : Int32) : PM Int32 :=
    kh4 x1 (x2 + 1)
set_option maxRecDepth 20000 in
theorem Lf_X5_boxesWithWay_b38 {y : LY} {t0 mi : Nat} (x1 : Int32) (x2 : Int32) (kh4 : Int32 → Int32 → Mo Int32) (pkh4 : Int32 → Int32 → PM Int32) (hkh4 : ∀ (z0 : Int32) (z1 : Int32), Lft y Eq (kh4 z0 z1) (pkh4 z0 z1)) : Lft y Eq (X5_boxesWithWay_b38 t0 mi kh4 (adO y 6 0) x1 x2) (p_X5_boxesWithWay_b38 pkh4 x1 x2) := by
  unfold X5_boxesWithWay_b38 p_X5_boxesWithWay_b38
  exact hkh4 x1 (x2 + 1)
def p_X5_boxesWithWay_L4 (kx : Int32 → PM Int32) : Nat → Int32 → Int32 → PM Int32
  | 0, _, _ => pflr
  | n + 1, x1, x2 =>
    pbnd (pchk 6 0) fun _ =>
    pbnd (pbnd (pchk 0 1) fun _ => psiz 1) fun v9 =>
    (if v9 ≤ x2 then
    kx x1
    else
    pbnd (pchk 6 0) fun _ =>
    pbnd (pbnd (pchk 0 1) fun _ => pget 1 x2) fun _ =>
    pbnd (pchk 1 x2.toNatClampNeg) fun _ =>
    pbnd (pbnd (pchk 1 x2.toNatClampNeg) fun _ => p_X0_current x2.toNatClampNeg) fun v26 =>
    pbnd (pbnd (pchk 5 v26) fun _ => p_X4_hasWay v26) fun v29 =>
    (if v29 = 0 then
    p_X5_boxesWithWay_b38 (p_X5_boxesWithWay_L4 kx n) x1 x2
    else
    p_X5_boxesWithWay_b38 (p_X5_boxesWithWay_L4 kx n) (x1 + 1) x2))
set_option maxRecDepth 20000 in
theorem Lf_X5_boxesWithWay_L4 {y : LY} {t0 mi : Nat} (kx : Int32 → Mo Int32) (pkx : Int32 → PM Int32) (hkx : ∀ (z0 : Int32), Lft y Eq (kx z0) (pkx z0)) : ∀ (n : Nat) (x1 : Int32) (x2 : Int32), Lft y Eq (X5_boxesWithWay_L4 t0 mi (adO y 6 0) kx n x1 x2) (p_X5_boxesWithWay_L4 pkx n x1 x2) := by
  intro n
  induction n with
  | zero => intro x1 x2; rw [p_X5_boxesWithWay_L4]; exact Lft_flr
  | succ n ih =>
    intro x1 x2; rw [X5_boxesWithWay_L4, p_X5_boxesWithWay_L4]
    refine Lft_bnd (Lft_gA (a := (adO y 0 1)) (fun F => rfl)) (fun v6 _ e9 => ?_)
    subst e9
    refine Lft_bnd (Lft_vc (Lft_siz (by decide))) (fun v9 z9 e9 => ?_)
    subst e9
    refine Lft_if (fun _ => ?_) (fun _ => ?_)
    · exact hkx x1
    · refine Lft_bnd (Lft_gA (a := (adO y 0 1)) (fun F => rfl)) (fun v16 _ e9 => ?_)
      subst e9
      refine Lft_bnd (Lft_vc (Lft_get1)) (fun v20 _ e9 => ?_)
      subst e9
      refine Lft_bnd (Lft_isC) (fun _ _ _ => ?_)
      refine Lft_bnd (Lft_vc (Lf_f_X0_current x2.toNatClampNeg)) (fun x9 v26 e9 => ?_)
      subst e9
      refine Lft_bnd (Lft_vc (Lf_f_X4_hasWay v26)) (fun v29 z9 e9 => ?_)
      subst e9
      refine Lft_if (fun _ => ?_) (fun _ => ?_)
      · exact Lf_X5_boxesWithWay_b38 x1 x2 _ _ ih
      · exact Lf_X5_boxesWithWay_b38 (x1 + 1) x2 _ _ ih
def p_X5_boxesWithWay : PM Int32 :=
    p_X5_boxesWithWay_L4 (fun y1_1 =>
    prt y1_1) FU (0 : Int32) (0 : Int32)
set_option maxRecDepth 20000 in
theorem Lf_f_X5_boxesWithWay {y : LY} {t0 mi : Nat} : Lft y Eq (f_X5_boxesWithWay t0 mi (adO y 6 0)) (p_X5_boxesWithWay) := by
  unfold f_X5_boxesWithWay p_X5_boxesWithWay
  refine Lf_X5_boxesWithWay_L4 _ _ (fun y1_1 => ?_) FU (0 : Int32) (0 : Int32)
  exact Lft_rt rfl
def p_X5_lateBoxes_b38 (kh4 : Int32 → Int32 → PM Int32) (x1 : Int32) (x2 : Int32) : PM Int32 :=
    kh4 x1 (x2 + 1)
set_option maxRecDepth 20000 in
theorem Lf_X5_lateBoxes_b38 {y : LY} {t0 mi : Nat} (x1 : Int32) (x2 : Int32) (kh4 : Int32 → Int32 → Mo Int32) (pkh4 : Int32 → Int32 → PM Int32) (hkh4 : ∀ (z0 : Int32) (z1 : Int32), Lft y Eq (kh4 z0 z1) (pkh4 z0 z1)) : Lft y Eq (X5_lateBoxes_b38 t0 mi kh4 (adO y 6 0) x1 x2) (p_X5_lateBoxes_b38 pkh4 x1 x2) := by
  unfold X5_lateBoxes_b38 p_X5_lateBoxes_b38
  exact hkh4 x1 (x2 + 1)
def p_X5_lateBoxes_L4 (kx : Int32 → PM Int32) : Nat → Int32 → Int32 → PM Int32
  | 0, _, _ => pflr
  | n + 1, x1, x2 =>
    pbnd (pchk 6 0) fun _ =>
    pbnd (pbnd (pchk 0 1) fun _ => psiz 1) fun v9 =>
    (if v9 ≤ x2 then
    kx x1
    else
    pbnd (pchk 6 0) fun _ =>
    pbnd (pbnd (pchk 0 1) fun _ => pget 1 x2) fun _ =>
    pbnd (pchk 1 x2.toNatClampNeg) fun _ =>
    pbnd (pbnd (pchk 1 x2.toNatClampNeg) fun _ => p_X0_current x2.toNatClampNeg) fun v26 =>
    pbnd (pbnd (pchk 5 v26) fun _ => p_X4_isLate v26) fun v29 =>
    (if v29 = 0 then
    p_X5_lateBoxes_b38 (p_X5_lateBoxes_L4 kx n) x1 x2
    else
    p_X5_lateBoxes_b38 (p_X5_lateBoxes_L4 kx n) (x1 + 1) x2))
set_option maxRecDepth 20000 in
theorem Lf_X5_lateBoxes_L4 {y : LY} {t0 mi : Nat} (kx : Int32 → Mo Int32) (pkx : Int32 → PM Int32) (hkx : ∀ (z0 : Int32), Lft y Eq (kx z0) (pkx z0)) : ∀ (n : Nat) (x1 : Int32) (x2 : Int32), Lft y Eq (X5_lateBoxes_L4 t0 mi (adO y 6 0) kx n x1 x2) (p_X5_lateBoxes_L4 pkx n x1 x2) := by
  intro n
  induction n with
  | zero => intro x1 x2; rw [p_X5_lateBoxes_L4]; exact Lft_flr
  | succ n ih =>
    intro x1 x2; rw [X5_lateBoxes_L4, p_X5_lateBoxes_L4]
    refine Lft_bnd (Lft_gA (a := (adO y 0 1)) (fun F => rfl)) (fun v6 _ e9 => ?_)
    subst e9
    refine Lft_bnd (Lft_vc (Lft_siz (by decide))) (fun v9 z9 e9 => ?_)
    subst e9
    refine Lft_if (fun _ => ?_) (fun _ => ?_)
    · exact hkx x1
    · refine Lft_bnd (Lft_gA (a := (adO y 0 1)) (fun F => rfl)) (fun v16 _ e9 => ?_)
      subst e9
      refine Lft_bnd (Lft_vc (Lft_get1)) (fun v20 _ e9 => ?_)
      subst e9
      refine Lft_bnd (Lft_isC) (fun _ _ _ => ?_)
      refine Lft_bnd (Lft_vc (Lf_f_X0_current x2.toNatClampNeg)) (fun x9 v26 e9 => ?_)
      subst e9
      refine Lft_bnd (Lft_vc (Lf_f_X4_isLate v26)) (fun v29 z9 e9 => ?_)
      subst e9
      refine Lft_if (fun _ => ?_) (fun _ => ?_)
      · exact Lf_X5_lateBoxes_b38 x1 x2 _ _ ih
      · exact Lf_X5_lateBoxes_b38 (x1 + 1) x2 _ _ ih
def p_X5_lateBoxes : PM Int32 :=
    p_X5_lateBoxes_L4 (fun y1_1 =>
    prt y1_1) FU (0 : Int32) (0 : Int32)
set_option maxRecDepth 20000 in
theorem Lf_f_X5_lateBoxes {y : LY} {t0 mi : Nat} : Lft y Eq (f_X5_lateBoxes t0 mi (adO y 6 0)) (p_X5_lateBoxes) := by
  unfold f_X5_lateBoxes p_X5_lateBoxes
  refine Lf_X5_lateBoxes_L4 _ _ (fun y1_1 => ?_) FU (0 : Int32) (0 : Int32)
  exact Lft_rt rfl
def p_X5_count (x1 : Int32) : PM Int32 :=
    (if x1 = 0 then
    pbnd (pchk 6 0) fun _ =>
    pbnd (pgI 3 0 1) fun v52 =>
    prt v52
    else
    (if x1 = 1 then
    pbnd (pchk 6 0) fun _ =>
    pbnd (pchk 3 0) fun _ =>
    pbnd (pbnd (pchk 0 0) fun _ => psiz 0) fun v63 =>
    prt v63
    else
    (if x1 = 2 then
    pbnd (pchk 6 0) fun _ =>
    pbnd (pbnd (pchk 0 1) fun _ => psiz 1) fun v71 =>
    prt v71
    else
    (if x1 = 3 then
    pbnd (pgI 6 0 4) fun v76 =>
    prt v76
    else
    (if x1 = 4 then
    pbnd (pbnd (pchk 6 0) fun _ => p_X5_boxesWithWay) fun v81 =>
    prt v81
    else
    (if x1 = 5 then
    pbnd (pbnd (pchk 6 0) fun _ => p_X5_lateBoxes) fun v86 =>
    prt v86
    else
    (if x1 = 6 then
    pbnd (pbnd (pchk 6 0) fun _ => p_X5_numberMarks) fun v91 =>
    prt v91
    else
    (if x1 = 7 then
    pbnd (pchk 6 0) fun _ =>
    pbnd (pgI 2 0 1) fun v99 =>
    prt v99
    else
    pthr "java/util/NoSuchElementException"))))))))
set_option maxRecDepth 20000 in
theorem Lf_f_X5_count {y : LY} {t0 mi : Nat} (x1 : Int32) : Lft y Eq (f_X5_count t0 mi (adO y 6 0) x1) (p_X5_count x1) := by
  unfold f_X5_count p_X5_count
  refine Lft_if (fun _ => ?_) (fun _ => ?_)
  · refine Lft_bnd (Lft_gA (a := (adO y 3 0)) (fun F => rfl)) (fun v49 _ e9 => ?_)
    subst e9
    refine Lft_bnd (Lft_gI (fun F => rfl)) (fun v52 z9 e9 => ?_)
    subst e9
    exact Lft_rt rfl
  · refine Lft_if (fun _ => ?_) (fun _ => ?_)
    · refine Lft_bnd (Lft_gA (a := (adO y 3 0)) (fun F => rfl)) (fun v57 _ e9 => ?_)
      subst e9
      refine Lft_bnd (Lft_gA (a := (adO y 0 0)) (fun F => rfl)) (fun v60 _ e9 => ?_)
      subst e9
      refine Lft_bnd (Lft_vc (Lft_siz (by decide))) (fun v63 z9 e9 => ?_)
      subst e9
      exact Lft_rt rfl
    · refine Lft_if (fun _ => ?_) (fun _ => ?_)
      · refine Lft_bnd (Lft_gA (a := (adO y 0 1)) (fun F => rfl)) (fun v68 _ e9 => ?_)
        subst e9
        refine Lft_bnd (Lft_vc (Lft_siz (by decide))) (fun v71 z9 e9 => ?_)
        subst e9
        exact Lft_rt rfl
      · refine Lft_if (fun _ => ?_) (fun _ => ?_)
        · refine Lft_bnd (Lft_gI (fun F => rfl)) (fun v76 z9 e9 => ?_)
          subst e9
          exact Lft_rt rfl
        · refine Lft_if (fun _ => ?_) (fun _ => ?_)
          · refine Lft_bnd (Lft_vc (Lf_f_X5_boxesWithWay)) (fun v81 z9 e9 => ?_)
            subst e9
            exact Lft_rt rfl
          · refine Lft_if (fun _ => ?_) (fun _ => ?_)
            · refine Lft_bnd (Lft_vc (Lf_f_X5_lateBoxes)) (fun v86 z9 e9 => ?_)
              subst e9
              exact Lft_rt rfl
            · refine Lft_if (fun _ => ?_) (fun _ => ?_)
              · refine Lft_bnd (Lft_vc (Lf_f_X5_numberMarks)) (fun v91 z9 e9 => ?_)
                subst e9
                exact Lft_rt rfl
              · refine Lft_if (fun _ => ?_) (fun _ => ?_)
                · refine Lft_bnd (Lft_gA (a := (adO y 2 0)) (fun F => rfl)) (fun v96 _ e9 => ?_)
                  subst e9
                  refine Lft_bnd (Lft_gI (fun F => rfl)) (fun v99 z9 e9 => ?_)
                  subst e9
                  exact Lft_rt rfl
                · exact Lft_thr
def p_L_count (x1 : Int32) : PM Int32 :=
    pctc (pbnd (pchk 6 0) fun _ => p_X5_count x1) (fun v4 =>
    pbnd (pstO (0 : Int32) v4.toInt64) fun _ =>
    prt (0 : Int32)) (fun E =>
    (if E = "java/util/NoSuchElementException" then
    prt (1 : Int32)
    else
    pflr))
set_option maxRecDepth 20000 in
theorem Lf_f_L_count {y : LY} {t0 mi : Nat} (x1 : Int32) : Lft y Eq (f_L_count t0 mi (adO y 6 0) x1 (yB y + 45)) (p_L_count x1) := by
  unfold f_L_count p_L_count
  refine Lft_ctc (Lft_vc (Lf_f_X5_count x1)) (fun v4 z9 e9 => ?_) (fun E => ?_)
  · subst e9
    refine Lft_bnd (Lft_stO) (fun _ _ _ => ?_)
    exact Lft_rt rfl
  · refine Lft_if (fun _ => ?_) (fun _ => ?_)
    · exact Lft_rt rfl
    · exact Lft_flr
def p_X6_count_b58 (kh12 : Int32 → Int32 → Int32 → PM Int32) (x1 : Int32) (x2 : Int32) (x4 : Int32) (s0 : Int32) (s1 : Int32) : PM Int32 :=
    kh12 x2 (s1 + s0) (x4 + 1)
set_option maxRecDepth 20000 in
theorem Lf_X6_count_b58 {y : LY} {t0 mi : Nat} (x1 : Int32) (x2 : Int32) (x4 : Int32) (s0 : Int32) (s1 : Int32) (kh12 : Int32 → Int32 → Int32 → Mo Int32) (pkh12 : Int32 → Int32 → Int32 → PM Int32) (hkh12 : ∀ (z0 : Int32) (z1 : Int32) (z2 : Int32), Lft y Eq (kh12 z0 z1 z2) (pkh12 z0 z1 z2)) : Lft y Eq (X6_count_b58 t0 mi kh12 (adO y 7 0) x1 x2 x4 s0 s1) (p_X6_count_b58 pkh12 x1 x2 x4 s0 s1) := by
  unfold X6_count_b58 p_X6_count_b58
  exact hkh12 x2 (s1 + s0) (x4 + 1)
def p_X6_count_b41 (kh12 : Int32 → Int32 → Int32 → PM Int32) (x1 : Int32) (x3 : Int32) (x4 : Int32) (s0 : Int32) (s1 : Int32) : PM Int32 :=
    pbnd (pbnd (pchk 7 0) fun _ => p_X6_isLate x4) fun v47 =>
    (if v47 = 0 then
    p_X6_count_b58 kh12 x1 (s1 + s0) x4 (0 : Int32) x3
    else
    p_X6_count_b58 kh12 x1 (s1 + s0) x4 (1 : Int32) x3)
set_option maxRecDepth 20000 in
theorem Lf_X6_count_b41 {y : LY} {t0 mi : Nat} (x1 : Int32) (x3 : Int32) (x4 : Int32) (s0 : Int32) (s1 : Int32) (kh12 : Int32 → Int32 → Int32 → Mo Int32) (pkh12 : Int32 → Int32 → Int32 → PM Int32) (hkh12 : ∀ (z0 : Int32) (z1 : Int32) (z2 : Int32), Lft y Eq (kh12 z0 z1 z2) (pkh12 z0 z1 z2)) : Lft y Eq (X6_count_b41 t0 mi kh12 (adO y 7 0) x1 x3 x4 s0 s1) (p_X6_count_b41 pkh12 x1 x3 x4 s0 s1) := by
  unfold X6_count_b41 p_X6_count_b41
  refine Lft_bnd (Lft_vc (Lf_f_X6_isLate x4)) (fun v47 z9 e9 => ?_)
  subst e9
  refine Lft_if (fun _ => ?_) (fun _ => ?_)
  · exact Lf_X6_count_b58 x1 (s1 + s0) x4 (0 : Int32) x3 _ _ hkh12
  · exact Lf_X6_count_b58 x1 (s1 + s0) x4 (1 : Int32) x3 _ _ hkh12
def p_X6_count_L12 (x1 : Int32) (kx : Int32 → Int32 → PM Int32) : Nat → Int32 → Int32 → Int32 → PM Int32
  | 0, _, _, _ => pflr
  | n + 1, x2, x3, x4 =>
    pbnd (pgI 7 0 4) fun v15 =>
    (if v15 ≤ x4 then
    kx x2 x3
    else
    pbnd (pchk 7 0) fun _ =>
    pbnd (pbnd (pchk 7 0) fun _ => p_X6_wayOf x4) fun v29 =>
    pbnd (pld 9 23 v29) fun v32 =>
    (if v32 = 0 then
    p_X6_count_b41 (p_X6_count_L12 x1 kx n) x1 x3 x4 (0 : Int32) x2
    else
    p_X6_count_b41 (p_X6_count_L12 x1 kx n) x1 x3 x4 (1 : Int32) x2))
set_option maxRecDepth 20000 in
theorem Lf_X6_count_L12 {y : LY} {t0 mi : Nat} (x1 : Int32) (kx : Int32 → Int32 → Mo Int32) (pkx : Int32 → Int32 → PM Int32) (hkx : ∀ (z0 : Int32) (z1 : Int32), Lft y Eq (kx z0 z1) (pkx z0 z1)) : ∀ (n : Nat) (x2 : Int32) (x3 : Int32) (x4 : Int32), Lft y Eq (X6_count_L12 t0 mi (adO y 7 0) x1 kx n x2 x3 x4) (p_X6_count_L12 x1 pkx n x2 x3 x4) := by
  intro n
  induction n with
  | zero => intro x2 x3 x4; rw [p_X6_count_L12]; exact Lft_flr
  | succ n ih =>
    intro x2 x3 x4; rw [X6_count_L12, p_X6_count_L12]
    refine Lft_bnd (Lft_gI (fun F => rfl)) (fun v15 z9 e9 => ?_)
    subst e9
    refine Lft_if (fun _ => ?_) (fun _ => ?_)
    · exact hkx x2 x3
    · refine Lft_bnd (Lft_gA (a := (adA y 9 23)) (fun F => rfl)) (fun v23 _ e9 => ?_)
      subst e9
      refine Lft_bnd (Lft_vc (Lf_f_X6_wayOf x4)) (fun v29 z9 e9 => ?_)
      subst e9
      refine Lft_bnd (Lft_ld rfl) (fun v32 z9 e9 => ?_)
      subst e9
      refine Lft_if (fun _ => ?_) (fun _ => ?_)
      · exact Lf_X6_count_b41 x1 x3 x4 (0 : Int32) x2 _ _ ih
      · exact Lf_X6_count_b41 x1 x3 x4 (1 : Int32) x2 _ _ ih
def p_X6_count (x1 : Int32) : PM Int32 :=
    pbnd (ppI 7 0 0 (0 : Int32)) fun _ =>
    p_X6_count_L12 x1 (fun y1_2 y1_3 =>
    (if x1 = 0 then
    pbnd (pgI 7 0 2) fun v113 =>
    prt v113
    else
    (if x1 = 1 then
    pbnd (pgI 7 0 3) fun v118 =>
    prt v118
    else
    (if x1 = 2 then
    pbnd (pgI 7 0 4) fun v123 =>
    prt v123
    else
    (if x1 = 3 then
    pbnd (pgI 7 0 1) fun v128 =>
    prt v128
    else
    (if x1 = 4 then
    prt y1_2
    else
    (if x1 = 5 then
    prt y1_3
    else
    (if x1 = 6 then
    pbnd (pgI 7 0 4) fun v138 =>
    pbnd (pbnd (pchk 7 0) fun _ => p_X6_marksUpTo v138) fun v141 =>
    prt v141
    else
    (if x1 = 7 then
    pbnd (pgI 7 0 5) fun v146 =>
    prt v146
    else
    pbnd (pbnd (pchk 7 0) fun _ => p_X6_fail) fun v151 =>
    prt v151))))))))) FU (0 : Int32) (0 : Int32) (0 : Int32)
set_option maxRecDepth 20000 in
theorem Lf_f_X6_count {y : LY} {t0 mi : Nat} (x1 : Int32) : Lft y Eq (f_X6_count t0 mi (adO y 7 0) x1) (p_X6_count x1) := by
  unfold f_X6_count p_X6_count
  refine Lft_bnd (Lft_pI ⟨by decide, by decide⟩ (fun F => ⟨by simp [fds, u3], by simp [fds]⟩)) (fun _ _ _ => ?_)
  refine Lf_X6_count_L12 x1 _ _ (fun y1_2 y1_3 => ?_) FU (0 : Int32) (0 : Int32) (0 : Int32)
  refine Lft_if (fun _ => ?_) (fun _ => ?_)
  · refine Lft_bnd (Lft_gI (fun F => rfl)) (fun v113 z9 e9 => ?_)
    subst e9
    exact Lft_rt rfl
  · refine Lft_if (fun _ => ?_) (fun _ => ?_)
    · refine Lft_bnd (Lft_gI (fun F => rfl)) (fun v118 z9 e9 => ?_)
      subst e9
      exact Lft_rt rfl
    · refine Lft_if (fun _ => ?_) (fun _ => ?_)
      · refine Lft_bnd (Lft_gI (fun F => rfl)) (fun v123 z9 e9 => ?_)
        subst e9
        exact Lft_rt rfl
      · refine Lft_if (fun _ => ?_) (fun _ => ?_)
        · refine Lft_bnd (Lft_gI (fun F => rfl)) (fun v128 z9 e9 => ?_)
          subst e9
          exact Lft_rt rfl
        · refine Lft_if (fun _ => ?_) (fun _ => ?_)
          · exact Lft_rt rfl
          · refine Lft_if (fun _ => ?_) (fun _ => ?_)
            · exact Lft_rt rfl
            · refine Lft_if (fun _ => ?_) (fun _ => ?_)
              · refine Lft_bnd (Lft_gI (fun F => rfl)) (fun v138 z9 e9 => ?_)
                subst e9
                refine Lft_bnd (Lft_vc (Lf_f_X6_marksUpTo v138)) (fun v141 z9 e9 => ?_)
                subst e9
                exact Lft_rt rfl
              · refine Lft_if (fun _ => ?_) (fun _ => ?_)
                · refine Lft_bnd (Lft_gI (fun F => rfl)) (fun v146 z9 e9 => ?_)
                  subst e9
                  exact Lft_rt rfl
                · refine Lft_bnd (Lft_vc (Lf_f_X6_fail)) (fun v151 z9 e9 => ?_)
                  subst e9
                  exact Lft_rt rfl
