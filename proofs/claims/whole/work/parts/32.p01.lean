def p_X2_findLatest_b104 (kh42 : Int32 → PM Unit) (x3 : Int32) (x4 : Int32) (x5 : Int32) : PM Unit :=
    kh42 (x5 + 1)
set_option maxRecDepth 20000 in
theorem Lf_X2_findLatest_b104 {y : LY} {t0 mi : Nat} (x3 : Int32) (x4 : Int32) (x5 : Int32) (kh42 : Int32 → Mo Unit) (pkh42 : Int32 → PM Unit) (hkh42 : ∀ (z0 : Int32), Lft y (fun (_ : Unit) (_ : Unit) => True) (kh42 z0) (pkh42 z0)) : Lft y (fun (_ : Unit) (_ : Unit) => True) (X2_findLatest_b104 t0 mi kh42 (adO y 3 0) x3 x4 x5) (p_X2_findLatest_b104 pkh42 x3 x4 x5) := by
  unfold X2_findLatest_b104 p_X2_findLatest_b104
  exact hkh42 (x5 + 1)
def p_X2_findLatest_L42 (x3 : Int32) (x4 : Int32) (kx : PM Unit) : Nat → Int32 → PM Unit
  | 0, _ => pflr
  | n + 1, x5 =>
    pbnd (pchk 3 0) fun _ =>
    pbnd (pbnd (pchk 0 0) fun _ => psiz 0) fun v48 =>
    (if v48 ≤ x5 then
    kx
    else
    pbnd (pchk 3 0) fun _ =>
    pbnd (pbnd (pchk 0 0) fun _ => pget 0 x5) fun _ =>
    pbnd (pchk 4 x5.toNatClampNeg) fun _ =>
    pbnd (pgI 4 x5.toNatClampNeg 5) fun v66 =>
    (if v66 = 0 then
    pbnd (pchk 3 0) fun _ =>
    pbnd (pbnd (pchk 0 0) fun _ => pget 0 x5) fun _ =>
    pbnd (pchk 4 x5.toNatClampNeg) fun _ =>
    pbnd (pchk 3 0) fun _ =>
    pbnd (prow 4 (x4 - (1 : Int32))) fun _ =>
    pbnd (pchk 3 0) fun _ =>
    pbnd (prow 4 x4) fun _ =>
    pbnd (pbnd (pchk 3 0) fun _ => p_X2_rideBackwards x5.toNatClampNeg ((x4 - (1 : Int32)).toNatClampNeg) x4.toNatClampNeg) fun _ =>
    p_X2_findLatest_b104 (p_X2_findLatest_L42 x3 x4 kx n) x3 x4 x5
    else
    p_X2_findLatest_b104 (p_X2_findLatest_L42 x3 x4 kx n) x3 x4 x5))
set_option maxRecDepth 20000 in
theorem Lf_X2_findLatest_L42 {y : LY} {t0 mi : Nat} (x3 : Int32) (x4 : Int32) (kx : Mo Unit) (pkx : PM Unit) (hkx : Lft y (fun (_ : Unit) (_ : Unit) => True) kx pkx) : ∀ (n : Nat) (x5 : Int32), Lft y (fun (_ : Unit) (_ : Unit) => True) (X2_findLatest_L42 t0 mi (adO y 3 0) x3 x4 kx n x5) (p_X2_findLatest_L42 x3 x4 pkx n x5) := by
  intro n
  induction n with
  | zero => intro x5; rw [p_X2_findLatest_L42]; exact Lft_flr
  | succ n ih =>
    intro x5; rw [X2_findLatest_L42, p_X2_findLatest_L42]
    refine Lft_bnd (Lft_gA (a := (adO y 0 0)) (fun F => rfl)) (fun v45 _ e9 => ?_)
    subst e9
    refine Lft_bnd (Lft_vc (Lft_siz (by decide))) (fun v48 z9 e9 => ?_)
    subst e9
    refine Lft_if (fun _ => ?_) (fun _ => ?_)
    · exact hkx
    · refine Lft_bnd (Lft_gA (a := (adO y 0 0)) (fun F => rfl)) (fun v55 _ e9 => ?_)
      subst e9
      refine Lft_bnd (Lft_vc (Lft_get0)) (fun v60 _ e9 => ?_)
      subst e9
      refine Lft_bnd (Lft_isC) (fun _ _ _ => ?_)
      refine Lft_bnd (Lft_gI (fun F => rfl)) (fun v66 z9 e9 => ?_)
      subst e9
      refine Lft_if (fun _ => ?_) (fun _ => ?_)
      · refine Lft_bnd (Lft_gA (a := (adO y 0 0)) (fun F => rfl)) (fun v74 _ e9 => ?_)
        subst e9
        refine Lft_bnd (Lft_vc (Lft_get0)) (fun v79 _ e9 => ?_)
        subst e9
        refine Lft_bnd (Lft_isC) (fun _ _ _ => ?_)
        refine Lft_bnd (Lft_gA (a := (yB y + 9)) (fun F => rfl)) (fun v86 _ e9 => ?_)
        subst e9
        refine Lft_bnd (Lft_row4) (fun v93 _ e9 => ?_)
        subst e9
        refine Lft_bnd (Lft_gA (a := (yB y + 9)) (fun F => rfl)) (fun v95 _ e9 => ?_)
        subst e9
        refine Lft_bnd (Lft_row4) (fun v100 _ e9 => ?_)
        subst e9
        refine Lft_bnd (Lft_vc (Lf_f_X2_rideBackwards x5.toNatClampNeg ((x4 - (1 : Int32)).toNatClampNeg) x4.toNatClampNeg)) (fun _ _ _ => ?_)
        exact Lf_X2_findLatest_b104 x3 x4 x5 _ _ ih
      · exact Lf_X2_findLatest_b104 x3 x4 x5 _ _ ih
def p_X2_findLatest_L22 (x3 : Int32) (kx : PM Unit) : Nat → Int32 → PM Unit
  | 0, _ => pflr
  | n + 1, x4 =>
    (if x3 ≤ x4 then
    kx
    else
    pbnd (pchk 3 0) fun _ =>
    pbnd (prow 4 x4) fun _ =>
    pbnd (pfill 4 x4.toNatClampNeg (-1 : Int32)) fun _ =>
    p_X2_findLatest_L42 x3 x4 (p_X2_findLatest_L22 x3 kx n (x4 + 1)) FU (0 : Int32))
set_option maxRecDepth 20000 in
theorem Lf_X2_findLatest_L22 {y : LY} {t0 mi : Nat} (x3 : Int32) (kx : Mo Unit) (pkx : PM Unit) (hkx : Lft y (fun (_ : Unit) (_ : Unit) => True) kx pkx) : ∀ (n : Nat) (x4 : Int32), Lft y (fun (_ : Unit) (_ : Unit) => True) (X2_findLatest_L22 t0 mi (adO y 3 0) x3 kx n x4) (p_X2_findLatest_L22 x3 pkx n x4) := by
  intro n
  induction n with
  | zero => intro x4; rw [p_X2_findLatest_L22]; exact Lft_flr
  | succ n ih =>
    intro x4; rw [X2_findLatest_L22, p_X2_findLatest_L22]
    refine Lft_if (fun _ => ?_) (fun _ => ?_)
    · exact hkx
    · refine Lft_bnd (Lft_gA (a := (yB y + 9)) (fun F => rfl)) (fun v29 _ e9 => ?_)
      subst e9
      refine Lft_bnd (Lft_row4) (fun v34 _ e9 => ?_)
      subst e9
      refine Lft_bnd (Lft_fill rfl) (fun _ _ _ => ?_)
      refine Lf_X2_findLatest_L42 x3 x4 _ _ ?_ FU (0 : Int32)
      exact ih (x4 + 1)
def p_X2_findLatest (x1 : Int32) (x2 : Int32) (x3 : Int32) : PM Unit :=
    pbnd (pchk 3 0) fun _ =>
    pbnd (prow 4 (0 : Int32)) fun _ =>
    pbnd (pfill 4 ((0 : Int32).toNatClampNeg) (-1 : Int32)) fun _ =>
    pbnd (pchk 3 0) fun _ =>
    pbnd (prow 4 (0 : Int32)) fun _ =>
    pbnd (pst 4 ((0 : Int32).toNatClampNeg) x1 x2) fun _ =>
    p_X2_findLatest_L22 x3 (prt ()) FU (1 : Int32)
set_option maxRecDepth 20000 in
theorem Lf_f_X2_findLatest {y : LY} {t0 mi : Nat} (x1 : Int32) (x2 : Int32) (x3 : Int32) : Lft y (fun (_ : Unit) (_ : Unit) => True) (f_X2_findLatest t0 mi (adO y 3 0) x1 x2 x3) (p_X2_findLatest x1 x2 x3) := by
  unfold f_X2_findLatest p_X2_findLatest
  refine Lft_bnd (Lft_gA (a := (yB y + 9)) (fun F => rfl)) (fun v1 _ e9 => ?_)
  subst e9
  refine Lft_bnd (Lft_row4) (fun v5 _ e9 => ?_)
  subst e9
  refine Lft_bnd (Lft_fill rfl) (fun _ _ _ => ?_)
  refine Lft_bnd (Lft_gA (a := (yB y + 9)) (fun F => rfl)) (fun v11 _ e9 => ?_)
  subst e9
  refine Lft_bnd (Lft_row4) (fun v15 _ e9 => ?_)
  subst e9
  refine Lft_bnd (Lft_st rfl) (fun _ _ _ => ?_)
  refine Lf_X2_findLatest_L22 x3 _ _ ?_ FU (1 : Int32)
  exact Lft_rt trivial
def p_X2_firstOff_L5 (x1 : Nat) (x3 : Nat) (kx : PM Int32) : Nat → Int32 → PM Int32
  | 0, _ => pflr
  | n + 1, x4 =>
    pbnd (pgI 4 x1 4) fun v8 =>
    (if v8 ≤ x4 then
    kx
    else
    pbnd (pbnd (pchk 4 x1) fun _ => p_X3_isFull x1 (x4 - (1 : Int32))) fun v19 =>
    (if v19 = 0 then
    pbnd (pbnd (pchk 3 0) fun _ => p_X2_sortedAt x1 x4) fun v29 =>
    pbnd (pchk 4 x1) fun _ =>
    pbnd (pld 5 x1 x4) fun v39 =>
    pbnd (pld 4 x3 v39) fun v40 =>
    (if v40 < v29 then
    p_X2_firstOff_L5 x1 x3 kx n (x4 + 1)
    else
    prt x4)
    else
    kx))
set_option maxRecDepth 20000 in
theorem Lf_X2_firstOff_L5 {y : LY} {t0 mi : Nat} (x1 : Nat) (x3 : Nat) (kx : Mo Int32) (pkx : PM Int32) (hkx : Lft y Eq kx pkx) : ∀ (n : Nat) (x4 : Int32), Lft y Eq (X2_firstOff_L5 t0 mi (adO y 3 0) (adO y 4 x1) (adA y 4 x3) kx n x4) (p_X2_firstOff_L5 x1 x3 pkx n x4) := by
  intro n
  induction n with
  | zero => intro x4; rw [p_X2_firstOff_L5]; exact Lft_flr
  | succ n ih =>
    intro x4; rw [X2_firstOff_L5, p_X2_firstOff_L5]
    refine Lft_bnd (Lft_gI (fun F => rfl)) (fun v8 z9 e9 => ?_)
    subst e9
    refine Lft_if (fun _ => ?_) (fun _ => ?_)
    · exact hkx
    · refine Lft_bnd (Lft_vc (Lf_f_X3_isFull x1 (x4 - (1 : Int32)))) (fun v19 z9 e9 => ?_)
      subst e9
      refine Lft_if (fun _ => ?_) (fun _ => ?_)
      · refine Lft_bnd (Lft_vc (Lf_f_X2_sortedAt x1 x4)) (fun v29 z9 e9 => ?_)
        subst e9
        refine Lft_bnd (Lft_gA (a := (adA y 5 x1)) (fun F => rfl)) (fun v34 _ e9 => ?_)
        subst e9
        refine Lft_bnd (Lft_ld rfl) (fun v39 z9 e9 => ?_)
        subst e9
        refine Lft_bnd (Lft_ld rfl) (fun v40 z9 e9 => ?_)
        subst e9
        refine Lft_if (fun _ => ?_) (fun _ => ?_)
        · exact ih (x4 + 1)
        · exact Lft_rt rfl
      · exact hkx
def p_X2_firstOff (x1 : Nat) (x2 : Int32) (x3 : Nat) : PM Int32 :=
    p_X2_firstOff_L5 x1 x3 (prt (-1 : Int32)) FU (x2 + (1 : Int32))
set_option maxRecDepth 20000 in
theorem Lf_f_X2_firstOff {y : LY} {t0 mi : Nat} (x1 : Nat) (x2 : Int32) (x3 : Nat) : Lft y Eq (f_X2_firstOff t0 mi (adO y 3 0) (adO y 4 x1) x2 (adA y 4 x3)) (p_X2_firstOff x1 x2 x3) := by
  unfold f_X2_firstOff p_X2_firstOff
  refine Lf_X2_firstOff_L5 x1 x3 _ _ ?_ FU (x2 + (1 : Int32))
  exact Lft_rt rfl
def p_X3_changeLoads_L3 (x0 : Nat) (x2 : Int32) (x3 : Int32) (kx : PM Unit) : Nat → Int32 → PM Unit
  | 0, _ => pflr
  | n + 1, x4 =>
    (if x2 ≤ x4 then
    kx
    else
    pbnd (pchk 4 x0) fun _ =>
    pbnd (pld 7 x0 x4) fun v16 =>
    pbnd (pst 7 x0 x4 (v16 + x3)) fun _ =>
    p_X3_changeLoads_L3 x0 x2 x3 kx n (x4 + 1))
set_option maxRecDepth 20000 in
theorem Lf_X3_changeLoads_L3 {y : LY} {t0 mi : Nat} (x0 : Nat) (x2 : Int32) (x3 : Int32) (kx : Mo Unit) (pkx : PM Unit) (hkx : Lft y (fun (_ : Unit) (_ : Unit) => True) kx pkx) : ∀ (n : Nat) (x4 : Int32), Lft y (fun (_ : Unit) (_ : Unit) => True) (X3_changeLoads_L3 t0 mi (adO y 4 x0) x2 x3 kx n x4) (p_X3_changeLoads_L3 x0 x2 x3 pkx n x4) := by
  intro n
  induction n with
  | zero => intro x4; rw [p_X3_changeLoads_L3]; exact Lft_flr
  | succ n ih =>
    intro x4; rw [X3_changeLoads_L3, p_X3_changeLoads_L3]
    refine Lft_if (fun _ => ?_) (fun _ => ?_)
    · exact hkx
    · refine Lft_bnd (Lft_gA (a := (adA y 7 x0)) (fun F => rfl)) (fun v10 _ e9 => ?_)
      subst e9
      refine Lft_bnd (Lft_ld rfl) (fun v16 z9 e9 => ?_)
      subst e9
      refine Lft_bnd (Lft_st rfl) (fun _ _ _ => ?_)
      exact ih (x4 + 1)
def p_X3_changeLoads (x0 : Nat) (x1 : Int32) (x2 : Int32) (x3 : Int32) : PM Unit :=
    p_X3_changeLoads_L3 x0 x2 x3 (prt ()) FU x1
set_option maxRecDepth 20000 in
theorem Lf_f_X3_changeLoads {y : LY} {t0 mi : Nat} (x0 : Nat) (x1 : Int32) (x2 : Int32) (x3 : Int32) : Lft y (fun (_ : Unit) (_ : Unit) => True) (f_X3_changeLoads t0 mi (adO y 4 x0) x1 x2 x3) (p_X3_changeLoads x0 x1 x2 x3) := by
  unfold f_X3_changeLoads p_X3_changeLoads
  refine Lf_X3_changeLoads_L3 x0 x2 x3 _ _ ?_ FU x1
  exact Lft_rt trivial
def p_X4_addLeg (x0 : Nat) (x1 : Int32) (x2 : Int32) (x3 : Int32) : PM Unit :=
    pbnd (pchk 5 x0) fun _ =>
    pbnd (pgI 5 x0 7) fun v5 =>
    pbnd (pst 8 x0 ((v5 * (3 : Int32)) + (0 : Int32)) x1) fun _ =>
    pbnd (pchk 5 x0) fun _ =>
    pbnd (pgI 5 x0 7) fun v19 =>
    pbnd (pst 8 x0 ((v19 * (3 : Int32)) + (1 : Int32)) x2) fun _ =>
    pbnd (pchk 5 x0) fun _ =>
    pbnd (pgI 5 x0 7) fun v33 =>
    pbnd (pst 8 x0 ((v33 * (3 : Int32)) + (2 : Int32)) x3) fun _ =>
    pbnd (pgI 5 x0 7) fun v44 =>
    pbnd (ppI 5 x0 7 (v44 + (1 : Int32))) fun _ =>
    prt ()
set_option maxRecDepth 20000 in
theorem Lf_f_X4_addLeg {y : LY} {t0 mi : Nat} (x0 : Nat) (x1 : Int32) (x2 : Int32) (x3 : Int32) : Lft y (fun (_ : Unit) (_ : Unit) => True) (f_X4_addLeg t0 mi (adO y 5 x0) x1 x2 x3) (p_X4_addLeg x0 x1 x2 x3) := by
  unfold f_X4_addLeg p_X4_addLeg
  refine Lft_bnd (Lft_gA (a := (adA y 8 x0)) (fun F => rfl)) (fun v1 _ e9 => ?_)
  subst e9
  refine Lft_bnd (Lft_gI (fun F => rfl)) (fun v5 z9 e9 => ?_)
  subst e9
  refine Lft_bnd (Lft_st rfl) (fun _ _ _ => ?_)
  refine Lft_bnd (Lft_gA (a := (adA y 8 x0)) (fun F => rfl)) (fun v15 _ e9 => ?_)
  subst e9
  refine Lft_bnd (Lft_gI (fun F => rfl)) (fun v19 z9 e9 => ?_)
  subst e9
  refine Lft_bnd (Lft_st rfl) (fun _ _ _ => ?_)
  refine Lft_bnd (Lft_gA (a := (adA y 8 x0)) (fun F => rfl)) (fun v29 _ e9 => ?_)
  subst e9
  refine Lft_bnd (Lft_gI (fun F => rfl)) (fun v33 z9 e9 => ?_)
  subst e9
  refine Lft_bnd (Lft_st rfl) (fun _ _ _ => ?_)
  refine Lft_bnd (Lft_gI (fun F => rfl)) (fun v44 z9 e9 => ?_)
  subst e9
  refine Lft_bnd (Lft_pI ⟨by decide, by decide⟩ (fun F => ⟨by simp [fds, u3], by simp [fds]⟩)) (fun _ _ _ => ?_)
  exact Lft_rt trivial
def p_X2_takeFirstLeg_b119 (kh32 : Int32 → PM Int32) (x1 : Nat) (x2 : Int32) (x3 : Int32) (x4 : Int32) (x5 : Int32) (x6 : Nat) (x7 : Int32) : PM Int32 :=
    kh32 (x7 + 1)
set_option maxRecDepth 20000 in
theorem Lf_X2_takeFirstLeg_b119 {y : LY} {t0 mi : Nat} (x1 : Nat) (x2 : Int32) (x3 : Int32) (x4 : Int32) (x5 : Int32) (x6 : Nat) (x7 : Int32) (kh32 : Int32 → Mo Int32) (pkh32 : Int32 → PM Int32) (hkh32 : ∀ (z0 : Int32), Lft y Eq (kh32 z0) (pkh32 z0)) : Lft y Eq (X2_takeFirstLeg_b119 t0 mi kh32 (adO y 3 0) (adO y 5 x1) x2 x3 x4 x5 (adO y 4 x6) x7) (p_X2_takeFirstLeg_b119 pkh32 x1 x2 x3 x4 x5 x6 x7) := by
  unfold X2_takeFirstLeg_b119 p_X2_takeFirstLeg_b119
  exact hkh32 (x7 + 1)
def p_X2_takeFirstLeg_L32 (x1 : Nat) (x2 : Int32) (x3 : Int32) (x4 : Int32) (x5 : Int32) (x6 : Nat) (kx : PM Int32) : Nat → Int32 → PM Int32
  | 0, _ => pflr
  | n + 1, x7 =>
    pbnd (pgI 4 x6 4) fun v36 =>
    (if v36 ≤ x7 then
    kx
    else
    pbnd (pgI 4 x6 5) fun v44 =>
    (if v44 = 0 then
    pbnd (pchk 4 x6) fun _ =>
    pbnd (pld 5 x6 x7) fun v57 =>
    (if v57 = x2 then
    pbnd (pchk 4 x6) fun _ =>
    pbnd (pld 6 x6 x7) fun v69 =>
    (if v69 < x3 then
    p_X2_takeFirstLeg_b119 (p_X2_takeFirstLeg_L32 x1 x2 x3 x4 x5 x6 kx n) x1 x2 x3 x4 x5 x6 x7
    else
    pbnd (pchk 3 0) fun _ =>
    pbnd (prow 4 x4) fun _ =>
    pbnd (pbnd (pchk 3 0) fun _ => p_X2_firstOff x6 x7 x4.toNatClampNeg) fun v86 =>
    (if v86 = (-1 : Int32) then
    p_X2_takeFirstLeg_b119 (p_X2_takeFirstLeg_L32 x1 x2 x3 x4 x5 x6 kx n) x1 x2 x3 x4 x5 x6 x7
    else
    pbnd (pbnd (pchk 4 x6) fun _ => p_X3_changeLoads x6 x7 v86 (1 : Int32)) fun _ =>
    pbnd (pbnd (pchk 5 x1) fun _ => p_X4_addLeg x1 x5 x7 v86) fun _ =>
    prtZ (1 : Int32)))
    else
    p_X2_takeFirstLeg_b119 (p_X2_takeFirstLeg_L32 x1 x2 x3 x4 x5 x6 kx n) x1 x2 x3 x4 x5 x6 x7)
    else
    kx))
set_option maxRecDepth 20000 in
theorem Lf_X2_takeFirstLeg_L32 {y : LY} {t0 mi : Nat} (x1 : Nat) (x2 : Int32) (x3 : Int32) (x4 : Int32) (x5 : Int32) (x6 : Nat) (kx : Mo Int32) (pkx : PM Int32) (hkx : Lft y Eq kx pkx) : ∀ (n : Nat) (x7 : Int32), Lft y Eq (X2_takeFirstLeg_L32 t0 mi (adO y 3 0) (adO y 5 x1) x2 x3 x4 x5 (adO y 4 x6) kx n x7) (p_X2_takeFirstLeg_L32 x1 x2 x3 x4 x5 x6 pkx n x7) := by
  intro n
  induction n with
  | zero => intro x7; rw [p_X2_takeFirstLeg_L32]; exact Lft_flr
  | succ n ih =>
    intro x7; rw [X2_takeFirstLeg_L32, p_X2_takeFirstLeg_L32]
    refine Lft_bnd (Lft_gI (fun F => rfl)) (fun v36 z9 e9 => ?_)
    subst e9
    refine Lft_if (fun _ => ?_) (fun _ => ?_)
    · exact hkx
    · refine Lft_bnd (Lft_gI (fun F => rfl)) (fun v44 z9 e9 => ?_)
      subst e9
      refine Lft_if (fun _ => ?_) (fun _ => ?_)
      · refine Lft_bnd (Lft_gA (a := (adA y 5 x6)) (fun F => rfl)) (fun v52 _ e9 => ?_)
        subst e9
        refine Lft_bnd (Lft_ld rfl) (fun v57 z9 e9 => ?_)
        subst e9
        refine Lft_if (fun _ => ?_) (fun _ => ?_)
        · refine Lft_bnd (Lft_gA (a := (adA y 6 x6)) (fun F => rfl)) (fun v64 _ e9 => ?_)
          subst e9
          refine Lft_bnd (Lft_ld rfl) (fun v69 z9 e9 => ?_)
          subst e9
          refine Lft_if (fun _ => ?_) (fun _ => ?_)
          · exact Lf_X2_takeFirstLeg_b119 x1 x2 x3 x4 x5 x6 x7 _ _ ih
          · refine Lft_bnd (Lft_gA (a := (yB y + 9)) (fun F => rfl)) (fun v80 _ e9 => ?_)
            subst e9
            refine Lft_bnd (Lft_row4) (fun v85 _ e9 => ?_)
            subst e9
            refine Lft_bnd (Lft_vc (Lf_f_X2_firstOff x6 x7 x4.toNatClampNeg)) (fun v86 z9 e9 => ?_)
            subst e9
            refine Lft_if (fun _ => ?_) (fun _ => ?_)
            · exact Lf_X2_takeFirstLeg_b119 x1 x2 x3 x4 x5 x6 x7 _ _ ih
            · refine Lft_bnd (Lft_vc (Lf_f_X3_changeLoads x6 x7 v86 (1 : Int32))) (fun _ _ _ => ?_)
              refine Lft_bnd (Lft_vc (Lf_f_X4_addLeg x1 x5 x7 v86)) (fun _ _ _ => ?_)
              exact Lft_rtZ
        · exact Lf_X2_takeFirstLeg_b119 x1 x2 x3 x4 x5 x6 x7 _ _ ih
      · exact hkx
def p_X2_takeFirstLeg_L3 (x1 : Nat) (x2 : Int32) (x3 : Int32) (x4 : Int32) (kx : PM Int32) : Nat → Int32 → PM Int32
  | 0, _ => pflr
  | n + 1, x5 =>
    pbnd (pchk 3 0) fun _ =>
    pbnd (pbnd (pchk 0 0) fun _ => psiz 0) fun v9 =>
    (if v9 ≤ x5 then
    kx
    else
    pbnd (pchk 3 0) fun _ =>
    pbnd (pbnd (pchk 0 0) fun _ => pget 0 x5) fun _ =>
    pbnd (pchk 4 x5.toNatClampNeg) fun _ =>
    p_X2_takeFirstLeg_L32 x1 x2 x3 x4 x5 x5.toNatClampNeg (p_X2_takeFirstLeg_L3 x1 x2 x3 x4 kx n (x5 + 1)) FU (0 : Int32))
set_option maxRecDepth 20000 in
theorem Lf_X2_takeFirstLeg_L3 {y : LY} {t0 mi : Nat} (x1 : Nat) (x2 : Int32) (x3 : Int32) (x4 : Int32) (kx : Mo Int32) (pkx : PM Int32) (hkx : Lft y Eq kx pkx) : ∀ (n : Nat) (x5 : Int32), Lft y Eq (X2_takeFirstLeg_L3 t0 mi (adO y 3 0) (adO y 5 x1) x2 x3 x4 kx n x5) (p_X2_takeFirstLeg_L3 x1 x2 x3 x4 pkx n x5) := by
  intro n
  induction n with
  | zero => intro x5; rw [p_X2_takeFirstLeg_L3]; exact Lft_flr
  | succ n ih =>
    intro x5; rw [X2_takeFirstLeg_L3, p_X2_takeFirstLeg_L3]
    refine Lft_bnd (Lft_gA (a := (adO y 0 0)) (fun F => rfl)) (fun v6 _ e9 => ?_)
    subst e9
    refine Lft_bnd (Lft_vc (Lft_siz (by decide))) (fun v9 z9 e9 => ?_)
    subst e9
    refine Lft_if (fun _ => ?_) (fun _ => ?_)
    · exact hkx
    · refine Lft_bnd (Lft_gA (a := (adO y 0 0)) (fun F => rfl)) (fun v16 _ e9 => ?_)
      subst e9
      refine Lft_bnd (Lft_vc (Lft_get0)) (fun v21 _ e9 => ?_)
      subst e9
      refine Lft_bnd (Lft_isC) (fun _ _ _ => ?_)
      refine Lf_X2_takeFirstLeg_L32 x1 x2 x3 x4 x5 x5.toNatClampNeg _ _ ?_ FU (0 : Int32)
      exact ih (x5 + 1)
def p_X2_takeFirstLeg (x1 : Nat) (x2 : Int32) (x3 : Int32) (x4 : Int32) : PM Int32 :=
    p_X2_takeFirstLeg_L3 x1 x2 x3 x4 (prtZ (0 : Int32)) FU (0 : Int32)
set_option maxRecDepth 20000 in
theorem Lf_f_X2_takeFirstLeg {y : LY} {t0 mi : Nat} (x1 : Nat) (x2 : Int32) (x3 : Int32) (x4 : Int32) : Lft y Eq (f_X2_takeFirstLeg t0 mi (adO y 3 0) (adO y 5 x1) x2 x3 x4) (p_X2_takeFirstLeg x1 x2 x3 x4) := by
  unfold f_X2_takeFirstLeg p_X2_takeFirstLeg
  refine Lf_X2_takeFirstLeg_L3 x1 x2 x3 x4 _ _ ?_ FU (0 : Int32)
  exact Lft_rtZ
def p_X4_legNumber (x0 : Nat) (x1 : Int32) (x2 : Int32) : PM Int32 :=
    pbnd (pchk 5 x0) fun _ =>
    pbnd (pld 8 x0 ((x1 * (3 : Int32)) + x2)) fun v9 =>
    prt v9
set_option maxRecDepth 20000 in
theorem Lf_f_X4_legNumber {y : LY} {t0 mi : Nat} (x0 : Nat) (x1 : Int32) (x2 : Int32) : Lft y Eq (f_X4_legNumber t0 mi (adO y 5 x0) x1 x2) (p_X4_legNumber x0 x1 x2) := by
  unfold f_X4_legNumber p_X4_legNumber
  refine Lft_bnd (Lft_gA (a := (adA y 8 x0)) (fun F => rfl)) (fun v1 _ e9 => ?_)
  subst e9
  refine Lft_bnd (Lft_ld rfl) (fun v9 z9 e9 => ?_)
  subst e9
  exact Lft_rt rfl
def p_X2_takeLegs_L12 (x1 : Nat) (kx : PM Unit) : Nat → Int32 → Int32 → Int32 → PM Unit
  | 0, _, _, _ => pflr
  | n + 1, x5, x6, x7 =>
    (if x7 < 0 then
    kx
    else
    pbnd (pbnd (pchk 3 0) fun _ => p_X2_takeFirstLeg x1 x5 x6 x7) fun v25 =>
    (if v25 = 0 then
    kx
    else
    pbnd (pchk 3 0) fun _ =>
    pbnd (pgI 5 x1 7) fun v37 =>
    pbnd (pbnd (pchk 5 x1) fun _ => p_X4_legNumber x1 (v37 - (1 : Int32)) (0 : Int32)) fun v43 =>
    pbnd (pbnd (pchk 0 0) fun _ => pget 0 v43) fun _ =>
    pbnd (pchk 4 v43.toNatClampNeg) fun _ =>
    pbnd (pgI 5 x1 7) fun v56 =>
    pbnd (pbnd (pchk 5 x1) fun _ => p_X4_legNumber x1 (v56 - (1 : Int32)) (2 : Int32)) fun v62 =>
    pbnd (pchk 4 v43.toNatClampNeg) fun _ =>
    pbnd (pld 5 v43.toNatClampNeg v62) fun v74 =>
    pbnd (pbnd (pchk 3 0) fun _ => p_X2_sortedAt v43.toNatClampNeg v62) fun v82 =>
    p_X2_takeLegs_L12 x1 kx n v74 v82 (x7 + (-1))))
set_option maxRecDepth 20000 in
theorem Lf_X2_takeLegs_L12 {y : LY} {t0 mi : Nat} (x1 : Nat) (kx : Mo Unit) (pkx : PM Unit) (hkx : Lft y (fun (_ : Unit) (_ : Unit) => True) kx pkx) : ∀ (n : Nat) (x5 : Int32) (x6 : Int32) (x7 : Int32), Lft y (fun (_ : Unit) (_ : Unit) => True) (X2_takeLegs_L12 t0 mi (adO y 3 0) (adO y 5 x1) kx n x5 x6 x7) (p_X2_takeLegs_L12 x1 pkx n x5 x6 x7) := by
  intro n
  induction n with
  | zero => intro x5 x6 x7; rw [p_X2_takeLegs_L12]; exact Lft_flr
  | succ n ih =>
    intro x5 x6 x7; rw [X2_takeLegs_L12, p_X2_takeLegs_L12]
    refine Lft_if (fun _ => ?_) (fun _ => ?_)
    · exact hkx
    · refine Lft_bnd (Lft_vc (Lf_f_X2_takeFirstLeg x1 x5 x6 x7)) (fun v25 z9 e9 => ?_)
      subst e9
      refine Lft_if (fun _ => ?_) (fun _ => ?_)
      · exact hkx
      · refine Lft_bnd (Lft_gA (a := (adO y 0 0)) (fun F => rfl)) (fun v32 _ e9 => ?_)
        subst e9
        refine Lft_bnd (Lft_gI (fun F => rfl)) (fun v37 z9 e9 => ?_)
        subst e9
        refine Lft_bnd (Lft_vc (Lf_f_X4_legNumber x1 (v37 - (1 : Int32)) (0 : Int32))) (fun v43 z9 e9 => ?_)
        subst e9
        refine Lft_bnd (Lft_vc (Lft_get0)) (fun v46 _ e9 => ?_)
        subst e9
        refine Lft_bnd (Lft_isC) (fun _ _ _ => ?_)
        refine Lft_bnd (Lft_gI (fun F => rfl)) (fun v56 z9 e9 => ?_)
        subst e9
        refine Lft_bnd (Lft_vc (Lf_f_X4_legNumber x1 (v56 - (1 : Int32)) (2 : Int32))) (fun v62 z9 e9 => ?_)
        subst e9
        refine Lft_bnd (Lft_gA (a := (adA y 5 v43.toNatClampNeg)) (fun F => rfl)) (fun v69 _ e9 => ?_)
        subst e9
        refine Lft_bnd (Lft_ld rfl) (fun v74 z9 e9 => ?_)
        subst e9
        refine Lft_bnd (Lft_vc (Lf_f_X2_sortedAt v43.toNatClampNeg v62)) (fun v82 z9 e9 => ?_)
        subst e9
        exact ih v74 v82 (x7 + (-1))
def p_X2_takeLegs (x1 : Nat) (x2 : Int32) (x3 : Int32) (x4 : Int32) : PM Unit :=
    p_X2_takeLegs_L12 x1 (prt ()) FU x2 x3 (x4 - (1 : Int32))
set_option maxRecDepth 20000 in
theorem Lf_f_X2_takeLegs {y : LY} {t0 mi : Nat} (x1 : Nat) (x2 : Int32) (x3 : Int32) (x4 : Int32) : Lft y (fun (_ : Unit) (_ : Unit) => True) (f_X2_takeLegs t0 mi (adO y 3 0) (adO y 5 x1) x2 x3 x4) (p_X2_takeLegs x1 x2 x3 x4) := by
  unfold f_X2_takeLegs p_X2_takeLegs
  refine Lf_X2_takeLegs_L12 x1 _ _ ?_ FU x2 x3 (x4 - (1 : Int32))
  exact Lft_rt trivial
def p_X4_endWayAt (x0 : Nat) (x1 : Int32) : PM Unit :=
    pbnd (ppZ 5 x0 8 (1 : Int32)) fun _ =>
    pbnd (ppI 5 x0 9 x1) fun _ =>
    pbnd (ppI 5 x0 10 (-1 : Int32)) fun _ =>
    pbnd (ppI 5 x0 11 (-1 : Int32)) fun _ =>
    prt ()
set_option maxRecDepth 20000 in
theorem Lf_f_X4_endWayAt {y : LY} {t0 mi : Nat} (x0 : Nat) (x1 : Int32) : Lft y (fun (_ : Unit) (_ : Unit) => True) (f_X4_endWayAt t0 mi (adO y 5 x0) x1) (p_X4_endWayAt x0 x1) := by
  unfold f_X4_endWayAt p_X4_endWayAt
  refine Lft_bnd (Lft_pZ ⟨by decide, by decide⟩ (fun F => ⟨by simp [fds, u3], by simp [fds]⟩)) (fun _ _ _ => ?_)
  refine Lft_bnd (Lft_pI ⟨by decide, by decide⟩ (fun F => ⟨by simp [fds, u3], by simp [fds]⟩)) (fun _ _ _ => ?_)
  refine Lft_bnd (Lft_pI ⟨by decide, by decide⟩ (fun F => ⟨by simp [fds, u3], by simp [fds]⟩)) (fun _ _ _ => ?_)
  refine Lft_bnd (Lft_pI ⟨by decide, by decide⟩ (fun F => ⟨by simp [fds, u3], by simp [fds]⟩)) (fun _ _ _ => ?_)
  exact Lft_rt trivial
def p_X2_leadOn (x1 : Nat) (x2 : Int32) (x3 : Int32) : PM Int32 :=
    pbnd (pgI 5 x1 3) fun v4 =>
    pbnd (pgI 5 x1 7) fun v9 =>
    pbnd (pbnd (pchk 3 0) fun _ => p_X2_legsOfTheWay x2 x3 v4 ((3 : Int32) - v9)) fun v13 =>
    (if v13 = (-1 : Int32) then
    prtZ (0 : Int32)
    else
    pbnd (pchk 3 0) fun _ =>
    pbnd (prow 3 v13) fun _ =>
    pbnd (pgI 5 x1 3) fun v34 =>
    pbnd (pld 3 v13.toNatClampNeg v34) fun v37 =>
    pbnd (pgI 5 x1 3) fun v42 =>
    pbnd (pbnd (pchk 3 0) fun _ => p_X2_findLatest v42 v37 v13) fun _ =>
    pbnd (pbnd (pchk 3 0) fun _ => p_X2_takeLegs x1 x2 x3 v13) fun _ =>
    pbnd (pbnd (pchk 5 x1) fun _ => p_X4_endWayAt x1 v37) fun _ =>
    prtZ (1 : Int32))
set_option maxRecDepth 20000 in
theorem Lf_f_X2_leadOn {y : LY} {t0 mi : Nat} (x1 : Nat) (x2 : Int32) (x3 : Int32) : Lft y Eq (f_X2_leadOn t0 mi (adO y 3 0) (adO y 5 x1) x2 x3) (p_X2_leadOn x1 x2 x3) := by
  unfold f_X2_leadOn p_X2_leadOn
  refine Lft_bnd (Lft_gI (fun F => rfl)) (fun v4 z9 e9 => ?_)
  subst e9
  refine Lft_bnd (Lft_gI (fun F => rfl)) (fun v9 z9 e9 => ?_)
  subst e9
  refine Lft_bnd (Lft_vc (Lf_f_X2_legsOfTheWay x2 x3 v4 ((3 : Int32) - v9))) (fun v13 z9 e9 => ?_)
  subst e9
  refine Lft_if (fun _ => ?_) (fun _ => ?_)
  · exact Lft_rtZ
  · refine Lft_bnd (Lft_gA (a := (yB y + 4)) (fun F => rfl)) (fun v27 _ e9 => ?_)
    subst e9
    refine Lft_bnd (Lft_row3) (fun v32 _ e9 => ?_)
    subst e9
    refine Lft_bnd (Lft_gI (fun F => rfl)) (fun v34 z9 e9 => ?_)
    subst e9
    refine Lft_bnd (Lft_ld rfl) (fun v37 z9 e9 => ?_)
    subst e9
    refine Lft_bnd (Lft_gI (fun F => rfl)) (fun v42 z9 e9 => ?_)
    subst e9
    refine Lft_bnd (Lft_vc (Lf_f_X2_findLatest v42 v37 v13)) (fun _ _ _ => ?_)
    refine Lft_bnd (Lft_vc (Lf_f_X2_takeLegs x1 x2 x3 v13)) (fun _ _ _ => ?_)
    refine Lft_bnd (Lft_vc (Lf_f_X4_endWayAt x1 v37)) (fun _ _ _ => ?_)
    exact Lft_rtZ
def p_X2_beginning (x1 : Nat) : PM Int32 :=
    pbnd (pgI 5 x1 2) fun v1 =>
    pbnd (pgI 5 x1 1) fun v5 =>
    pbnd (pchk 3 0) fun _ =>
    pbnd (pgI 5 x1 0) fun v14 =>
    pbnd (pld 0 0 v14) fun v17 =>
    prt ((v1 + v5) + v17)
set_option maxRecDepth 20000 in
theorem Lf_f_X2_beginning {y : LY} {t0 mi : Nat} (x1 : Nat) : Lft y Eq (f_X2_beginning t0 mi (adO y 3 0) (adO y 5 x1)) (p_X2_beginning x1) := by
  unfold f_X2_beginning p_X2_beginning
  refine Lft_bnd (Lft_gI (fun F => rfl)) (fun v1 z9 e9 => ?_)
  subst e9
  refine Lft_bnd (Lft_gI (fun F => rfl)) (fun v5 z9 e9 => ?_)
  subst e9
  refine Lft_bnd (Lft_gA (a := (adA y 0 0)) (fun F => rfl)) (fun v10 _ e9 => ?_)
  subst e9
  refine Lft_bnd (Lft_gI (fun F => rfl)) (fun v14 z9 e9 => ?_)
  subst e9
  refine Lft_bnd (Lft_ld rfl) (fun v17 z9 e9 => ?_)
  subst e9
  exact Lft_rt rfl
def p_X5_leadByPlan_b49 : PM Int32 :=
    prtZ (0 : Int32)
set_option maxRecDepth 20000 in
theorem Lf_X5_leadByPlan_b49 {y : LY} {t0 mi : Nat} : Lft y Eq (X5_leadByPlan_b49 t0 mi) (p_X5_leadByPlan_b49) := by
  unfold X5_leadByPlan_b49 p_X5_leadByPlan_b49
  exact Lft_rtZ
def p_X5_leadByPlan (x1 : Nat) : PM Int32 :=
    pbnd (pbnd (pchk 5 x1) fun _ => p_X4_stands x1) fun v1 =>
    (if v1 = 0 then
    pbnd (pgI 5 x1 8) fun v32 =>
    (if v32 = 0 then
    pbnd (pgI 5 x1 2) fun v39 =>
    pbnd (pgI 6 0 4) fun v43 =>
    (if v43 ≤ v39 then
    pbnd (pchk 6 0) fun _ =>
    pbnd (pgI 5 x1 0) fun v57 =>
    pbnd (pchk 6 0) fun _ =>
    pbnd (pbnd (pchk 3 0) fun _ => p_X2_beginning x1) fun v65 =>
    pbnd (pbnd (pchk 3 0) fun _ => p_X2_leadOn x1 v57 v65) fun v68 =>
    prtZ v68
    else
    p_X5_leadByPlan_b49)
    else
    p_X5_leadByPlan_b49)
    else
    pbnd (pchk 6 0) fun _ =>
    pbnd (pgI 5 x1 10) fun v13 =>
    pbnd (pgI 5 x1 11) fun v17 =>
    pbnd (pgI 6 0 4) fun v21 =>
    pbnd (pbnd (pchk 3 0) fun _ => p_X2_leadOn x1 v13 (mx v17 v21)) fun v27 =>
    prtZ v27)
set_option maxRecDepth 20000 in
theorem Lf_f_X5_leadByPlan {y : LY} {t0 mi : Nat} (x1 : Nat) : Lft y Eq (f_X5_leadByPlan t0 mi (adO y 6 0) (adO y 5 x1)) (p_X5_leadByPlan x1) := by
  unfold f_X5_leadByPlan p_X5_leadByPlan
  refine Lft_bnd (Lft_vc (Lf_f_X4_stands x1)) (fun v1 z9 e9 => ?_)
  subst e9
  refine Lft_if (fun _ => ?_) (fun _ => ?_)
  · refine Lft_bnd (Lft_gI (fun F => rfl)) (fun v32 z9 e9 => ?_)
    subst e9
    refine Lft_if (fun _ => ?_) (fun _ => ?_)
    · refine Lft_bnd (Lft_gI (fun F => rfl)) (fun v39 z9 e9 => ?_)
      subst e9
      refine Lft_bnd (Lft_gI (fun F => rfl)) (fun v43 z9 e9 => ?_)
      subst e9
      refine Lft_if (fun _ => ?_) (fun _ => ?_)
      · refine Lft_bnd (Lft_gA (a := (adO y 3 0)) (fun F => rfl)) (fun v52 _ e9 => ?_)
        subst e9
        refine Lft_bnd (Lft_gI (fun F => rfl)) (fun v57 z9 e9 => ?_)
        subst e9
        refine Lft_bnd (Lft_gA (a := (adO y 3 0)) (fun F => rfl)) (fun v61 _ e9 => ?_)
        subst e9
        refine Lft_bnd (Lft_vc (Lf_f_X2_beginning x1)) (fun v65 z9 e9 => ?_)
        subst e9
        refine Lft_bnd (Lft_vc (Lf_f_X2_leadOn x1 v57 v65)) (fun v68 z9 e9 => ?_)
        subst e9
        exact Lft_rtZ
      · exact Lf_X5_leadByPlan_b49
    · exact Lf_X5_leadByPlan_b49
  · refine Lft_bnd (Lft_gA (a := (adO y 3 0)) (fun F => rfl)) (fun v8 _ e9 => ?_)
    subst e9
    refine Lft_bnd (Lft_gI (fun F => rfl)) (fun v13 z9 e9 => ?_)
    subst e9
    refine Lft_bnd (Lft_gI (fun F => rfl)) (fun v17 z9 e9 => ?_)
    subst e9
    refine Lft_bnd (Lft_gI (fun F => rfl)) (fun v21 z9 e9 => ?_)
    subst e9
    refine Lft_bnd (Lft_vc (Lf_f_X2_leadOn x1 v13 (mx v17 v21))) (fun v27 z9 e9 => ?_)
    subst e9
    exact Lft_rtZ
def p_X5_plan_b39 (kh4 : Int32 → Int32 → PM Int32) (x1 : Int32) (x2 : Int32) : PM Int32 :=
    kh4 x1 (x2 + 1)
set_option maxRecDepth 20000 in
theorem Lf_X5_plan_b39 {y : LY} {t0 mi : Nat} (x1 : Int32) (x2 : Int32) (kh4 : Int32 → Int32 → Mo Int32) (pkh4 : Int32 → Int32 → PM Int32) (hkh4 : ∀ (z0 : Int32) (z1 : Int32), Lft y Eq (kh4 z0 z1) (pkh4 z0 z1)) : Lft y Eq (X5_plan_b39 t0 mi kh4 (adO y 6 0) x1 x2) (p_X5_plan_b39 pkh4 x1 x2) := by
  unfold X5_plan_b39 p_X5_plan_b39
  exact hkh4 x1 (x2 + 1)
def p_X5_plan_L4 (kx : Int32 → PM Int32) : Nat → Int32 → Int32 → PM Int32
  | 0, _, _ => pflr
  | n + 1, x1, x2 =>
    pbnd (pchk 6 0) fun _ =>
    pbnd (pbnd (pchk 0 1) fun _ => psiz 1) fun v9 =>
    (if v9 ≤ x2 then
    kx x1
    else
    pbnd (pchk 6 0) fun _ =>
    pbnd (pbnd (pchk 0 1) fun _ => pget 1 x2) fun _ =>
    pbnd (pchk 1 x2.toNatClampNeg) fun _ =>
    pbnd (pbnd (pchk 1 x2.toNatClampNeg) fun _ => p_X0_current x2.toNatClampNeg) fun v27 =>
    pbnd (pbnd (pchk 6 0) fun _ => p_X5_leadByPlan v27) fun v30 =>
    (if v30 = 0 then
    p_X5_plan_b39 (p_X5_plan_L4 kx n) x1 x2
    else
    p_X5_plan_b39 (p_X5_plan_L4 kx n) (x1 + 1) x2))
set_option maxRecDepth 20000 in
theorem Lf_X5_plan_L4 {y : LY} {t0 mi : Nat} (kx : Int32 → Mo Int32) (pkx : Int32 → PM Int32) (hkx : ∀ (z0 : Int32), Lft y Eq (kx z0) (pkx z0)) : ∀ (n : Nat) (x1 : Int32) (x2 : Int32), Lft y Eq (X5_plan_L4 t0 mi (adO y 6 0) kx n x1 x2) (p_X5_plan_L4 pkx n x1 x2) := by
  intro n
  induction n with
  | zero => intro x1 x2; rw [p_X5_plan_L4]; exact Lft_flr
  | succ n ih =>
    intro x1 x2; rw [X5_plan_L4, p_X5_plan_L4]
    refine Lft_bnd (Lft_gA (a := (adO y 0 1)) (fun F => rfl)) (fun v6 _ e9 => ?_)
    subst e9
    refine Lft_bnd (Lft_vc (Lft_siz (by decide))) (fun v9 z9 e9 => ?_)
    subst e9
    refine Lft_if (fun _ => ?_) (fun _ => ?_)
    · exact hkx x1
    · refine Lft_bnd (Lft_gA (a := (adO y 0 1)) (fun F => rfl)) (fun v17 _ e9 => ?_)
      subst e9
      refine Lft_bnd (Lft_vc (Lft_get1)) (fun v21 _ e9 => ?_)
      subst e9
      refine Lft_bnd (Lft_isC) (fun _ _ _ => ?_)
      refine Lft_bnd (Lft_vc (Lf_f_X0_current x2.toNatClampNeg)) (fun x9 v27 e9 => ?_)
      subst e9
      refine Lft_bnd (Lft_vc (Lf_f_X5_leadByPlan v27)) (fun v30 z9 e9 => ?_)
      subst e9
      refine Lft_if (fun _ => ?_) (fun _ => ?_)
      · exact Lf_X5_plan_b39 x1 x2 _ _ ih
      · exact Lf_X5_plan_b39 (x1 + 1) x2 _ _ ih
def p_X5_plan : PM Int32 :=
    p_X5_plan_L4 (fun y1_1 =>
    prt y1_1) FU (0 : Int32) (0 : Int32)
set_option maxRecDepth 20000 in
theorem Lf_f_X5_plan {y : LY} {t0 mi : Nat} : Lft y Eq (f_X5_plan t0 mi (adO y 6 0)) (p_X5_plan) := by
  unfold f_X5_plan p_X5_plan
  refine Lf_X5_plan_L4 _ _ (fun y1_1 => ?_) FU (0 : Int32) (0 : Int32)
  exact Lft_rt rfl
def p_X6_wayOf_b17 (s0 : Int32) (s1 : Int32) : PM Int32 :=
    prt (s1 + s0)
set_option maxRecDepth 20000 in
theorem Lf_X6_wayOf_b17 {y : LY} {t0 mi : Nat} (s0 : Int32) (s1 : Int32) : Lft y Eq (X6_wayOf_b17 t0 mi s0 s1) (p_X6_wayOf_b17 s0 s1) := by
  unfold X6_wayOf_b17 p_X6_wayOf_b17
  exact Lft_rt rfl
def p_X6_wayOf (x1 : Int32) : PM Int32 :=
    pbnd (pchk 7 0) fun _ =>
    pbnd (pld 9 21 x1) fun v8 =>
    (if v8 = 0 then
    p_X6_wayOf_b17 (0 : Int32) ((2 : Int32) * x1)
    else
    p_X6_wayOf_b17 (1 : Int32) ((2 : Int32) * x1))
set_option maxRecDepth 20000 in
theorem Lf_f_X6_wayOf {y : LY} {t0 mi : Nat} (x1 : Int32) : Lft y Eq (f_X6_wayOf t0 mi (adO y 7 0) x1) (p_X6_wayOf x1) := by
  unfold f_X6_wayOf p_X6_wayOf
  refine Lft_bnd (Lft_gA (a := (adA y 9 21)) (fun F => rfl)) (fun v4 _ e9 => ?_)
  subst e9
  refine Lft_bnd (Lft_ld rfl) (fun v8 z9 e9 => ?_)
  subst e9
  refine Lft_if (fun _ => ?_) (fun _ => ?_)
  · exact Lf_X6_wayOf_b17 (0 : Int32) ((2 : Int32) * x1)
  · exact Lf_X6_wayOf_b17 (1 : Int32) ((2 : Int32) * x1)
def p_X6_toOf_b24 (s0 : Int32) : PM Int32 :=
    prt s0
set_option maxRecDepth 20000 in
theorem Lf_X6_toOf_b24 {y : LY} {t0 mi : Nat} (s0 : Int32) : Lft y Eq (X6_toOf_b24 t0 mi s0) (p_X6_toOf_b24 s0) := by
  unfold X6_toOf_b24 p_X6_toOf_b24
  exact Lft_rt rfl
def p_X6_toOf (x1 : Int32) : PM Int32 :=
    pbnd (pchk 7 0) fun _ =>
    pbnd (pld 9 21 x1) fun v5 =>
    (if v5 = 0 then
    pbnd (pchk 7 0) fun _ =>
    pbnd (pld 9 17 x1) fun v23 =>
    p_X6_toOf_b24 v23
    else
    pbnd (pchk 7 0) fun _ =>
    pbnd (pld 9 14 x1) fun v14 =>
    p_X6_toOf_b24 v14)
set_option maxRecDepth 20000 in
theorem Lf_f_X6_toOf {y : LY} {t0 mi : Nat} (x1 : Int32) : Lft y Eq (f_X6_toOf t0 mi (adO y 7 0) x1) (p_X6_toOf x1) := by
  unfold f_X6_toOf p_X6_toOf
  refine Lft_bnd (Lft_gA (a := (adA y 9 21)) (fun F => rfl)) (fun v1 _ e9 => ?_)
  subst e9
  refine Lft_bnd (Lft_ld rfl) (fun v5 z9 e9 => ?_)
  subst e9
  refine Lft_if (fun _ => ?_) (fun _ => ?_)
  · refine Lft_bnd (Lft_gA (a := (adA y 9 17)) (fun F => rfl)) (fun v19 _ e9 => ?_)
    subst e9
    refine Lft_bnd (Lft_ld rfl) (fun v23 z9 e9 => ?_)
    subst e9
    exact Lf_X6_toOf_b24 v23
  · refine Lft_bnd (Lft_gA (a := (adA y 9 14)) (fun F => rfl)) (fun v10 _ e9 => ?_)
    subst e9
    refine Lft_bnd (Lft_ld rfl) (fun v14 z9 e9 => ?_)
    subst e9
    exact Lf_X6_toOf_b24 v14
def p_X6_isFree_b33 (s0 : Int32) : PM Int32 :=
    prtZ s0
set_option maxRecDepth 20000 in
theorem Lf_X6_isFree_b33 {y : LY} {t0 mi : Nat} (s0 : Int32) : Lft y Eq (X6_isFree_b33 t0 mi s0) (p_X6_isFree_b33 s0) := by
  unfold X6_isFree_b33 p_X6_isFree_b33
  exact Lft_rtZ
def p_X6_isFree_b32 : PM Int32 :=
    p_X6_isFree_b33 (0 : Int32)
set_option maxRecDepth 20000 in
theorem Lf_X6_isFree_b32 {y : LY} {t0 mi : Nat} : Lft y Eq (X6_isFree_b32 t0 mi) (p_X6_isFree_b32) := by
  unfold X6_isFree_b32 p_X6_isFree_b32
  exact Lf_X6_isFree_b33 (0 : Int32)
def p_X6_isFree (x1 : Int32) (x2 : Int32) : PM Int32 :=
    pbnd (pchk 7 0) fun _ =>
    pbnd (pld 9 13 x1) fun v5 =>
    (if v5 = 0 then
    pbnd (pchk 7 0) fun _ =>
    pbnd (p_X6_node x1 x2) fun v15 =>
    pbnd (pld 9 11 v15) fun v18 =>
    pbnd (pchk 7 0) fun _ =>
    pbnd (pld 9 7 x1) fun v24 =>
    (if v24 ≤ v18 then
    p_X6_isFree_b32
    else
    p_X6_isFree_b33 (1 : Int32))
    else
    p_X6_isFree_b32)
set_option maxRecDepth 20000 in
theorem Lf_f_X6_isFree {y : LY} {t0 mi : Nat} (x1 : Int32) (x2 : Int32) : Lft y Eq (f_X6_isFree t0 mi (adO y 7 0) x1 x2) (p_X6_isFree x1 x2) := by
  unfold f_X6_isFree p_X6_isFree
  refine Lft_bnd (Lft_gA (a := (adA y 9 13)) (fun F => rfl)) (fun v1 _ e9 => ?_)
  subst e9
  refine Lft_bnd (Lft_ld rfl) (fun v5 z9 e9 => ?_)
  subst e9
  refine Lft_if (fun _ => ?_) (fun _ => ?_)
  · refine Lft_bnd (Lft_gA (a := (adA y 9 11)) (fun F => rfl)) (fun v10 _ e9 => ?_)
    subst e9
    refine Lft_bnd (Lf_f_X6_node x1 x2) (fun v15 z9 e9 => ?_)
    subst e9
    refine Lft_bnd (Lft_ld rfl) (fun v18 z9 e9 => ?_)
    subst e9
    refine Lft_bnd (Lft_gA (a := (adA y 9 7)) (fun F => rfl)) (fun v20 _ e9 => ?_)
    subst e9
    refine Lft_bnd (Lft_ld rfl) (fun v24 z9 e9 => ?_)
    subst e9
    refine Lft_if (fun _ => ?_) (fun _ => ?_)
    · exact Lf_X6_isFree_b32
    · exact Lf_X6_isFree_b33 (1 : Int32)
  · exact Lf_X6_isFree_b32
def p_X6_lookLeg_b70 : PM Unit :=
    prt ()
set_option maxRecDepth 20000 in
theorem Lf_X6_lookLeg_b70 {y : LY} {t0 mi : Nat} : Lft y (fun (_ : Unit) (_ : Unit) => True) (X6_lookLeg_b70 t0 mi) (p_X6_lookLeg_b70) := by
  unfold X6_lookLeg_b70 p_X6_lookLeg_b70
  exact Lft_rt trivial
def p_X6_lookLeg_b71 (x2 : Int32) (x3 : Int32) (x4 : Int32) (x6 : Int32) (x7 : Int32) : PM Unit :=
    pbnd (ppI 7 0 32 x6) fun _ =>
    pbnd (ppI 7 0 33 x7) fun _ =>
    pbnd (ppI 7 0 34 x2) fun _ =>
    pbnd (ppI 7 0 35 x3) fun _ =>
    pbnd (ppI 7 0 36 x4) fun _ =>
    prt ()
set_option maxRecDepth 20000 in
theorem Lf_X6_lookLeg_b71 {y : LY} {t0 mi : Nat} (x2 : Int32) (x3 : Int32) (x4 : Int32) (x6 : Int32) (x7 : Int32) : Lft y (fun (_ : Unit) (_ : Unit) => True) (X6_lookLeg_b71 t0 mi (adO y 7 0) x2 x3 x4 x6 x7) (p_X6_lookLeg_b71 x2 x3 x4 x6 x7) := by
  unfold X6_lookLeg_b71 p_X6_lookLeg_b71
  refine Lft_bnd (Lft_pI ⟨by decide, by decide⟩ (fun F => ⟨by simp [fds, u3], by simp [fds]⟩)) (fun _ _ _ => ?_)
  refine Lft_bnd (Lft_pI ⟨by decide, by decide⟩ (fun F => ⟨by simp [fds, u3], by simp [fds]⟩)) (fun _ _ _ => ?_)
  refine Lft_bnd (Lft_pI ⟨by decide, by decide⟩ (fun F => ⟨by simp [fds, u3], by simp [fds]⟩)) (fun _ _ _ => ?_)
  refine Lft_bnd (Lft_pI ⟨by decide, by decide⟩ (fun F => ⟨by simp [fds, u3], by simp [fds]⟩)) (fun _ _ _ => ?_)
  refine Lft_bnd (Lft_pI ⟨by decide, by decide⟩ (fun F => ⟨by simp [fds, u3], by simp [fds]⟩)) (fun _ _ _ => ?_)
  exact Lft_rt trivial
def p_X6_lookLeg (x1 : Int32) (x2 : Int32) (x3 : Int32) (x4 : Int32) : PM Unit :=
    pbnd (p_X6_node x2 x4) fun v10 =>
    pbnd (pchk 7 0) fun _ =>
    pbnd (pld 9 30 (((160 : Int32) * (x1 - (1 : Int32))) + v10)) fun v22 =>
    pbnd (pchk 7 0) fun _ =>
    pbnd (pld 9 31 (((160 : Int32) * (x1 - (1 : Int32))) + v10)) fun v31 =>
    (if (268435456 : Int32) ≤ v22 then
    p_X6_lookLeg_b70
    else
    pbnd (pgI 7 0 32) fun v46 =>
    (if v46 < v22 then
    p_X6_lookLeg_b70
    else
    pbnd (pgI 7 0 32) fun v55 =>
    (if v22 = v55 then
    pbnd (pgI 7 0 33) fun v64 =>
    (if (v31 + (1 : Int32)) < v64 then
    p_X6_lookLeg_b71 x2 x3 x4 v22 (v31 + (1 : Int32))
    else
    p_X6_lookLeg_b70)
    else
    p_X6_lookLeg_b71 x2 x3 x4 v22 (v31 + (1 : Int32)))))
set_option maxRecDepth 20000 in
theorem Lf_f_X6_lookLeg {y : LY} {t0 mi : Nat} (x1 : Int32) (x2 : Int32) (x3 : Int32) (x4 : Int32) : Lft y (fun (_ : Unit) (_ : Unit) => True) (f_X6_lookLeg t0 mi (adO y 7 0) x1 x2 x3 x4) (p_X6_lookLeg x1 x2 x3 x4) := by
  unfold f_X6_lookLeg p_X6_lookLeg
  refine Lft_bnd (Lf_f_X6_node x2 x4) (fun v10 z9 e9 => ?_)
  subst e9
  refine Lft_bnd (Lft_gA (a := (adA y 9 30)) (fun F => rfl)) (fun v17 _ e9 => ?_)
  subst e9
  refine Lft_bnd (Lft_ld rfl) (fun v22 z9 e9 => ?_)
  subst e9
  refine Lft_bnd (Lft_gA (a := (adA y 9 31)) (fun F => rfl)) (fun v26 _ e9 => ?_)
  subst e9
  refine Lft_bnd (Lft_ld rfl) (fun v31 z9 e9 => ?_)
  subst e9
  refine Lft_if (fun _ => ?_) (fun _ => ?_)
  · exact Lf_X6_lookLeg_b70
  · refine Lft_bnd (Lft_gI (fun F => rfl)) (fun v46 z9 e9 => ?_)
    subst e9
    refine Lft_if (fun _ => ?_) (fun _ => ?_)
    · exact Lf_X6_lookLeg_b70
    · refine Lft_bnd (Lft_gI (fun F => rfl)) (fun v55 z9 e9 => ?_)
      subst e9
      refine Lft_if (fun _ => ?_) (fun _ => ?_)
      · refine Lft_bnd (Lft_gI (fun F => rfl)) (fun v64 z9 e9 => ?_)
        subst e9
        refine Lft_if (fun _ => ?_) (fun _ => ?_)
        · exact Lf_X6_lookLeg_b71 x2 x3 x4 v22 (v31 + (1 : Int32))
        · exact Lf_X6_lookLeg_b70
      · exact Lf_X6_lookLeg_b71 x2 x3 x4 v22 (v31 + (1 : Int32))
def p_X6_look_L98 (x1 : Int32) (x2 : Int32) (x3 : Int32) (x5 : Int32) (x6 : Int32) (kx : PM Unit) : Nat → Int32 → PM Unit
  | 0, _ => pflr
  | n + 1, x7 =>
    pbnd (pchk 7 0) fun _ =>
    pbnd (pld 9 8 x5) fun v106 =>
    (if v106 ≤ x7 then
    kx
    else
    pbnd (pbnd (pchk 7 0) fun _ => p_X6_isFree x5 (x7 - (1 : Int32))) fun v117 =>
    (if v117 = 0 then
    kx
    else
    pbnd (pbnd (pchk 7 0) fun _ => p_X6_lookLeg x1 x5 x6 x7) fun _ =>
    p_X6_look_L98 x1 x2 x3 x5 x6 kx n (x7 + 1)))
set_option maxRecDepth 20000 in
theorem Lf_X6_look_L98 {y : LY} {t0 mi : Nat} (x1 : Int32) (x2 : Int32) (x3 : Int32) (x5 : Int32) (x6 : Int32) (kx : Mo Unit) (pkx : PM Unit) (hkx : Lft y (fun (_ : Unit) (_ : Unit) => True) kx pkx) : ∀ (n : Nat) (x7 : Int32), Lft y (fun (_ : Unit) (_ : Unit) => True) (X6_look_L98 t0 mi (adO y 7 0) x1 x2 x3 x5 x6 kx n x7) (p_X6_look_L98 x1 x2 x3 x5 x6 pkx n x7) := by
  intro n
  induction n with
  | zero => intro x7; rw [p_X6_look_L98]; exact Lft_flr
  | succ n ih =>
    intro x7; rw [X6_look_L98, p_X6_look_L98]
    refine Lft_bnd (Lft_gA (a := (adA y 9 8)) (fun F => rfl)) (fun v101 _ e9 => ?_)
    subst e9
    refine Lft_bnd (Lft_ld rfl) (fun v106 z9 e9 => ?_)
    subst e9
    refine Lft_if (fun _ => ?_) (fun _ => ?_)
    · exact hkx
    · refine Lft_bnd (Lft_vc (Lf_f_X6_isFree x5 (x7 - (1 : Int32)))) (fun v117 z9 e9 => ?_)
      subst e9
      refine Lft_if (fun _ => ?_) (fun _ => ?_)
      · exact hkx
      · refine Lft_bnd (Lft_vc (Lf_f_X6_lookLeg x1 x5 x6 x7)) (fun _ _ _ => ?_)
        exact ih (x7 + 1)
def p_X6_look_b140 (kh45 : Int32 → PM Unit) (x1 : Int32) (x2 : Int32) (x3 : Int32) (x5 : Int32) (x6 : Int32) : PM Unit :=
    kh45 (x6 + 1)
set_option maxRecDepth 20000 in
theorem Lf_X6_look_b140 {y : LY} {t0 mi : Nat} (x1 : Int32) (x2 : Int32) (x3 : Int32) (x5 : Int32) (x6 : Int32) (kh45 : Int32 → Mo Unit) (pkh45 : Int32 → PM Unit) (hkh45 : ∀ (z0 : Int32), Lft y (fun (_ : Unit) (_ : Unit) => True) (kh45 z0) (pkh45 z0)) : Lft y (fun (_ : Unit) (_ : Unit) => True) (X6_look_b140 t0 mi kh45 (adO y 7 0) x1 x2 x3 x5 x6) (p_X6_look_b140 pkh45 x1 x2 x3 x5 x6) := by
  unfold X6_look_b140 p_X6_look_b140
  exact hkh45 (x6 + 1)
def p_X6_look_L45 (x1 : Int32) (x2 : Int32) (x3 : Int32) (x5 : Int32) (kx : PM Unit) : Nat → Int32 → PM Unit
  | 0, _ => pflr
  | n + 1, x6 =>
    pbnd (pchk 7 0) fun _ =>
    pbnd (pld 9 8 x5) fun v53 =>
    (if v53 ≤ x6 then
    kx
    else
    pbnd (pchk 7 0) fun _ =>
    pbnd (p_X6_node x5 x6) fun v65 =>
    pbnd (pld 9 9 v65) fun v68 =>
    (if v68 = x2 then
    pbnd (pchk 7 0) fun _ =>
    pbnd (p_X6_node x5 x6) fun v81 =>
    pbnd (pld 9 10 v81) fun v84 =>
    (if x3 ≤ v84 then
    p_X6_look_L98 x1 x2 x3 x5 x6 (p_X6_look_b140 (p_X6_look_L45 x1 x2 x3 x5 kx n) x1 x2 x3 x5 x6) FU (x6 + (1 : Int32))
    else
    p_X6_look_b140 (p_X6_look_L45 x1 x2 x3 x5 kx n) x1 x2 x3 x5 x6)
    else
    p_X6_look_b140 (p_X6_look_L45 x1 x2 x3 x5 kx n) x1 x2 x3 x5 x6))
set_option maxRecDepth 20000 in
theorem Lf_X6_look_L45 {y : LY} {t0 mi : Nat} (x1 : Int32) (x2 : Int32) (x3 : Int32) (x5 : Int32) (kx : Mo Unit) (pkx : PM Unit) (hkx : Lft y (fun (_ : Unit) (_ : Unit) => True) kx pkx) : ∀ (n : Nat) (x6 : Int32), Lft y (fun (_ : Unit) (_ : Unit) => True) (X6_look_L45 t0 mi (adO y 7 0) x1 x2 x3 x5 kx n x6) (p_X6_look_L45 x1 x2 x3 x5 pkx n x6) := by
  intro n
  induction n with
  | zero => intro x6; rw [p_X6_look_L45]; exact Lft_flr
  | succ n ih =>
    intro x6; rw [X6_look_L45, p_X6_look_L45]
    refine Lft_bnd (Lft_gA (a := (adA y 9 8)) (fun F => rfl)) (fun v48 _ e9 => ?_)
    subst e9
    refine Lft_bnd (Lft_ld rfl) (fun v53 z9 e9 => ?_)
    subst e9
    refine Lft_if (fun _ => ?_) (fun _ => ?_)
    · exact hkx
    · refine Lft_bnd (Lft_gA (a := (adA y 9 9)) (fun F => rfl)) (fun v58 _ e9 => ?_)
      subst e9
      refine Lft_bnd (Lf_f_X6_node x5 x6) (fun v65 z9 e9 => ?_)
      subst e9
      refine Lft_bnd (Lft_ld rfl) (fun v68 z9 e9 => ?_)
      subst e9
      refine Lft_if (fun _ => ?_) (fun _ => ?_)
      · refine Lft_bnd (Lft_gA (a := (adA y 9 10)) (fun F => rfl)) (fun v74 _ e9 => ?_)
        subst e9
        refine Lft_bnd (Lf_f_X6_node x5 x6) (fun v81 z9 e9 => ?_)
        subst e9
        refine Lft_bnd (Lft_ld rfl) (fun v84 z9 e9 => ?_)
        subst e9
        refine Lft_if (fun _ => ?_) (fun _ => ?_)
        · refine Lf_X6_look_L98 x1 x2 x3 x5 x6 _ _ ?_ FU (x6 + (1 : Int32))
          exact Lf_X6_look_b140 x1 x2 x3 x5 x6 _ _ ih
        · exact Lf_X6_look_b140 x1 x2 x3 x5 x6 _ _ ih
      · exact Lf_X6_look_b140 x1 x2 x3 x5 x6 _ _ ih
def p_X6_look_L29 (x1 : Int32) (x2 : Int32) (x3 : Int32) (kx : PM Unit) : Nat → Int32 → PM Unit
  | 0, _ => pflr
  | n + 1, x5 =>
    pbnd (pgI 7 0 3) fun v32 =>
    (if v32 ≤ x5 then
    kx
    else
    (if x1 ≤ 0 then
    kx
    else
    p_X6_look_L45 x1 x2 x3 x5 (p_X6_look_L29 x1 x2 x3 kx n (x5 + 1)) FU (0 : Int32)))
set_option maxRecDepth 20000 in
theorem Lf_X6_look_L29 {y : LY} {t0 mi : Nat} (x1 : Int32) (x2 : Int32) (x3 : Int32) (kx : Mo Unit) (pkx : PM Unit) (hkx : Lft y (fun (_ : Unit) (_ : Unit) => True) kx pkx) : ∀ (n : Nat) (x5 : Int32), Lft y (fun (_ : Unit) (_ : Unit) => True) (X6_look_L29 t0 mi (adO y 7 0) x1 x2 x3 kx n x5) (p_X6_look_L29 x1 x2 x3 pkx n x5) := by
  intro n
  induction n with
  | zero => intro x5; rw [p_X6_look_L29]; exact Lft_flr
  | succ n ih =>
    intro x5; rw [X6_look_L29, p_X6_look_L29]
    refine Lft_bnd (Lft_gI (fun F => rfl)) (fun v32 z9 e9 => ?_)
    subst e9
    refine Lft_if (fun _ => ?_) (fun _ => ?_)
    · exact hkx
    · refine Lft_if (fun _ => ?_) (fun _ => ?_)
      · exact hkx
      · refine Lf_X6_look_L45 x1 x2 x3 x5 _ _ ?_ FU (0 : Int32)
        exact ih (x5 + 1)
def p_X6_look_b13 (x1 : Int32) (x2 : Int32) (x3 : Int32) (s0 : Int32) : PM Unit :=
    pbnd (ppI 7 0 32 s0) fun _ =>
    pbnd (ppI 7 0 33 (0 : Int32)) fun _ =>
    pbnd (ppI 7 0 34 (-1 : Int32)) fun _ =>
    p_X6_look_L29 x1 x2 x3 (prt ()) FU (0 : Int32)
set_option maxRecDepth 20000 in
theorem Lf_X6_look_b13 {y : LY} {t0 mi : Nat} (x1 : Int32) (x2 : Int32) (x3 : Int32) (s0 : Int32) : Lft y (fun (_ : Unit) (_ : Unit) => True) (X6_look_b13 t0 mi (adO y 7 0) x1 x2 x3 s0 (adO y 7 0)) (p_X6_look_b13 x1 x2 x3 s0) := by
  unfold X6_look_b13 p_X6_look_b13
  refine Lft_bnd (Lft_pI ⟨by decide, by decide⟩ (fun F => ⟨by simp [fds, u3], by simp [fds]⟩)) (fun _ _ _ => ?_)
  refine Lft_bnd (Lft_pI ⟨by decide, by decide⟩ (fun F => ⟨by simp [fds, u3], by simp [fds]⟩)) (fun _ _ _ => ?_)
  refine Lft_bnd (Lft_pI ⟨by decide, by decide⟩ (fun F => ⟨by simp [fds, u3], by simp [fds]⟩)) (fun _ _ _ => ?_)
  refine Lf_X6_look_L29 x1 x2 x3 _ _ ?_ FU (0 : Int32)
  exact Lft_rt trivial
def p_X6_look (x1 : Int32) (x2 : Int32) (x3 : Int32) (x4 : Int32) : PM Unit :=
    (if x2 = x4 then
    p_X6_look_b13 x1 x2 x3 x3
    else
    p_X6_look_b13 x1 x2 x3 (268435456 : Int32))
set_option maxRecDepth 20000 in
theorem Lf_f_X6_look {y : LY} {t0 mi : Nat} (x1 : Int32) (x2 : Int32) (x3 : Int32) (x4 : Int32) : Lft y (fun (_ : Unit) (_ : Unit) => True) (f_X6_look t0 mi (adO y 7 0) x1 x2 x3 x4) (p_X6_look x1 x2 x3 x4) := by
  unfold f_X6_look p_X6_look
  refine Lft_if (fun _ => ?_) (fun _ => ?_)
  · exact Lf_X6_look_b13 x1 x2 x3 x3
  · exact Lf_X6_look_b13 x1 x2 x3 (268435456 : Int32)
def p_X6_reckonOne (x1 : Int32) (x2 : Int32) (x3 : Int32) (x4 : Int32) (x5 : Int32) : PM Unit :=
    pbnd (pbnd (pchk 7 0) fun _ => p_X6_look x1 x3 x4 x5) fun _ =>
    pbnd (pchk 7 0) fun _ =>
    pbnd (pgI 7 0 32) fun v22 =>
    pbnd (pst 9 30 (((160 : Int32) * x1) + x2) v22) fun _ =>
    pbnd (pchk 7 0) fun _ =>
    pbnd (pgI 7 0 33) fun v38 =>
    pbnd (pst 9 31 (((160 : Int32) * x1) + x2) v38) fun _ =>
    prt ()
set_option maxRecDepth 20000 in
theorem Lf_f_X6_reckonOne {y : LY} {t0 mi : Nat} (x1 : Int32) (x2 : Int32) (x3 : Int32) (x4 : Int32) (x5 : Int32) : Lft y (fun (_ : Unit) (_ : Unit) => True) (f_X6_reckonOne t0 mi (adO y 7 0) x1 x2 x3 x4 x5) (p_X6_reckonOne x1 x2 x3 x4 x5) := by
  unfold f_X6_reckonOne p_X6_reckonOne
  refine Lft_bnd (Lft_vc (Lf_f_X6_look x1 x3 x4 x5)) (fun _ _ _ => ?_)
  refine Lft_bnd (Lft_gA (a := (adA y 9 30)) (fun F => rfl)) (fun v11 _ e9 => ?_)
  subst e9
  refine Lft_bnd (Lft_gI (fun F => rfl)) (fun v22 z9 e9 => ?_)
  subst e9
  refine Lft_bnd (Lft_st rfl) (fun _ _ _ => ?_)
  refine Lft_bnd (Lft_gA (a := (adA y 9 31)) (fun F => rfl)) (fun v27 _ e9 => ?_)
  subst e9
  refine Lft_bnd (Lft_gI (fun F => rfl)) (fun v38 z9 e9 => ?_)
  subst e9
  refine Lft_bnd (Lft_st rfl) (fun _ _ _ => ?_)
  exact Lft_rt trivial
def p_X6_reckon_L20 (x1 : Int32) (x2 : Int32) (x3 : Int32) (kx : PM Unit) : Nat → Int32 → PM Unit
  | 0, _ => pflr
  | n + 1, x4 =>
    pbnd (pchk 7 0) fun _ =>
    pbnd (pld 9 8 x3) fun v27 =>
    (if v27 ≤ x4 then
    kx
    else
    pbnd (p_X6_node x3 x4) fun v34 =>
    pbnd (pchk 7 0) fun _ =>
    pbnd (pld 9 9 v34) fun v49 =>
    pbnd (pchk 7 0) fun _ =>
    pbnd (pld 9 10 v34) fun v56 =>
    pbnd (pchk 7 0) fun _ =>
    pbnd (pchk 7 0) fun _ =>
    pbnd (pld 9 9 v34) fun v67 =>
    pbnd (pld 9 6 v67) fun v68 =>
    pbnd (pbnd (pchk 7 0) fun _ => p_X6_reckonOne x2 v34 v49 (v56 + v68) x1) fun _ =>
    p_X6_reckon_L20 x1 x2 x3 kx n (x4 + 1))
set_option maxRecDepth 20000 in
theorem Lf_X6_reckon_L20 {y : LY} {t0 mi : Nat} (x1 : Int32) (x2 : Int32) (x3 : Int32) (kx : Mo Unit) (pkx : PM Unit) (hkx : Lft y (fun (_ : Unit) (_ : Unit) => True) kx pkx) : ∀ (n : Nat) (x4 : Int32), Lft y (fun (_ : Unit) (_ : Unit) => True) (X6_reckon_L20 t0 mi (adO y 7 0) x1 x2 x3 kx n x4) (p_X6_reckon_L20 x1 x2 x3 pkx n x4) := by
  intro n
  induction n with
  | zero => intro x4; rw [p_X6_reckon_L20]; exact Lft_flr
  | succ n ih =>
    intro x4; rw [X6_reckon_L20, p_X6_reckon_L20]
    refine Lft_bnd (Lft_gA (a := (adA y 9 8)) (fun F => rfl)) (fun v23 _ e9 => ?_)
    subst e9
    refine Lft_bnd (Lft_ld rfl) (fun v27 z9 e9 => ?_)
    subst e9
    refine Lft_if (fun _ => ?_) (fun _ => ?_)
    · exact hkx
    · refine Lft_bnd (Lf_f_X6_node x3 x4) (fun v34 z9 e9 => ?_)
      subst e9
      refine Lft_bnd (Lft_gA (a := (adA y 9 9)) (fun F => rfl)) (fun v44 _ e9 => ?_)
      subst e9
      refine Lft_bnd (Lft_ld rfl) (fun v49 z9 e9 => ?_)
      subst e9
      refine Lft_bnd (Lft_gA (a := (adA y 9 10)) (fun F => rfl)) (fun v51 _ e9 => ?_)
      subst e9
      refine Lft_bnd (Lft_ld rfl) (fun v56 z9 e9 => ?_)
      subst e9
      refine Lft_bnd (Lft_gA (a := (adA y 9 6)) (fun F => rfl)) (fun v58 _ e9 => ?_)
      subst e9
      refine Lft_bnd (Lft_gA (a := (adA y 9 9)) (fun F => rfl)) (fun v62 _ e9 => ?_)
      subst e9
      refine Lft_bnd (Lft_ld rfl) (fun v67 z9 e9 => ?_)
      subst e9
      refine Lft_bnd (Lft_ld rfl) (fun v68 z9 e9 => ?_)
      subst e9
      refine Lft_bnd (Lft_vc (Lf_f_X6_reckonOne x2 v34 v49 (v56 + v68) x1)) (fun _ _ _ => ?_)
      exact ih (x4 + 1)
def p_X6_reckon_L9 (x1 : Int32) (x2 : Int32) (kx : PM Unit) : Nat → Int32 → PM Unit
  | 0, _ => pflr
  | n + 1, x3 =>
    pbnd (pgI 7 0 3) fun v11 =>
    (if v11 ≤ x3 then
    kx
    else
    p_X6_reckon_L20 x1 x2 x3 (p_X6_reckon_L9 x1 x2 kx n (x3 + 1)) FU (0 : Int32))
set_option maxRecDepth 20000 in
theorem Lf_X6_reckon_L9 {y : LY} {t0 mi : Nat} (x1 : Int32) (x2 : Int32) (kx : Mo Unit) (pkx : PM Unit) (hkx : Lft y (fun (_ : Unit) (_ : Unit) => True) kx pkx) : ∀ (n : Nat) (x3 : Int32), Lft y (fun (_ : Unit) (_ : Unit) => True) (X6_reckon_L9 t0 mi (adO y 7 0) x1 x2 kx n x3) (p_X6_reckon_L9 x1 x2 pkx n x3) := by
  intro n
  induction n with
  | zero => intro x3; rw [p_X6_reckon_L9]; exact Lft_flr
  | succ n ih =>
    intro x3; rw [X6_reckon_L9, p_X6_reckon_L9]
    refine Lft_bnd (Lft_gI (fun F => rfl)) (fun v11 z9 e9 => ?_)
    subst e9
    refine Lft_if (fun _ => ?_) (fun _ => ?_)
    · exact hkx
    · refine Lf_X6_reckon_L20 x1 x2 x3 _ _ ?_ FU (0 : Int32)
      exact ih (x3 + 1)
def p_X6_reckon_L2 (x1 : Int32) (kx : PM Unit) : Nat → Int32 → PM Unit
  | 0, _ => pflr
  | n + 1, x2 =>
    (if (3 : Int32) < x2 then
    kx
    else
    p_X6_reckon_L9 x1 x2 (p_X6_reckon_L2 x1 kx n (x2 + 1)) FU (0 : Int32))
set_option maxRecDepth 20000 in
theorem Lf_X6_reckon_L2 {y : LY} {t0 mi : Nat} (x1 : Int32) (kx : Mo Unit) (pkx : PM Unit) (hkx : Lft y (fun (_ : Unit) (_ : Unit) => True) kx pkx) : ∀ (n : Nat) (x2 : Int32), Lft y (fun (_ : Unit) (_ : Unit) => True) (X6_reckon_L2 t0 mi (adO y 7 0) x1 kx n x2) (p_X6_reckon_L2 x1 pkx n x2) := by
  intro n
  induction n with
  | zero => intro x2; rw [p_X6_reckon_L2]; exact Lft_flr
  | succ n ih =>
    intro x2; rw [X6_reckon_L2, p_X6_reckon_L2]
    refine Lft_if (fun _ => ?_) (fun _ => ?_)
    · exact hkx
    · refine Lf_X6_reckon_L9 x1 x2 _ _ ?_ FU (0 : Int32)
      exact ih (x2 + 1)
def p_X6_reckon (x1 : Int32) : PM Unit :=
    p_X6_reckon_L2 x1 (prt ()) FU (0 : Int32)
set_option maxRecDepth 20000 in
theorem Lf_f_X6_reckon {y : LY} {t0 mi : Nat} (x1 : Int32) : Lft y (fun (_ : Unit) (_ : Unit) => True) (f_X6_reckon t0 mi (adO y 7 0) x1) (p_X6_reckon x1) := by
  unfold f_X6_reckon p_X6_reckon
  refine Lf_X6_reckon_L2 x1 _ _ ?_ FU (0 : Int32)
  exact Lft_rt trivial
def p_X6_legAt (x0 : Int32) (x1 : Int32) : PM Int32 :=
    prt (((3 : Int32) * x0) + x1)
set_option maxRecDepth 20000 in
theorem Lf_f_X6_legAt {y : LY} {t0 mi : Nat} (x0 : Int32) (x1 : Int32) : Lft y Eq (f_X6_legAt t0 mi x0 x1) (p_X6_legAt x0 x1) := by
  unfold f_X6_legAt p_X6_legAt
  exact Lft_rt rfl
def p_X6_lead_L52 (x4 : Int32) (x5 : Int32) (kx : PM Int32) : Nat → Int32 → PM Int32
  | 0, _ => pflr
  | n + 1, x6 =>
    pbnd (pgI 7 0 34) fun v53 =>
    (if v53 = (-1 : Int32) then
    kx
    else
    pbnd (pchk 7 0) fun _ =>
    pbnd (pld 9 24 x4) fun v68 =>
    pbnd (p_X6_legAt x4 v68) fun v69 =>
    pbnd (pchk 7 0) fun _ =>
    pbnd (pgI 7 0 34) fun v81 =>
    pbnd (pst 9 27 v69 v81) fun _ =>
    pbnd (pchk 7 0) fun _ =>
    pbnd (pgI 7 0 35) fun v92 =>
    pbnd (pst 9 28 v69 v92) fun _ =>
    pbnd (pchk 7 0) fun _ =>
    pbnd (pgI 7 0 36) fun v103 =>
    pbnd (pst 9 29 v69 v103) fun _ =>
    pbnd (pchk 7 0) fun _ =>
    pbnd (pld 9 24 x4) fun v114 =>
    pbnd (pst 9 24 x4 (v114 + (1 : Int32))) fun _ =>
    pbnd (pgI 7 0 34) fun v122 =>
    pbnd (pgI 7 0 36) fun v126 =>
    pbnd (p_X6_node v122 v126) fun v129 =>
    pbnd (pchk 7 0) fun _ =>
    pbnd (pld 9 9 v129) fun v143 =>
    pbnd (pchk 7 0) fun _ =>
    pbnd (pld 9 10 v129) fun v150 =>
    pbnd (pchk 7 0) fun _ =>
    pbnd (pchk 7 0) fun _ =>
    pbnd (pld 9 9 v129) fun v161 =>
    pbnd (pld 9 6 v161) fun v162 =>
    pbnd (pbnd (pchk 7 0) fun _ => p_X6_look (x6 + (-1)) v143 (v150 + v162) x5) fun _ =>
    p_X6_lead_L52 x4 x5 kx n (x6 + (-1)))
set_option maxRecDepth 20000 in
theorem Lf_X6_lead_L52 {y : LY} {t0 mi : Nat} (x4 : Int32) (x5 : Int32) (kx : Mo Int32) (pkx : PM Int32) (hkx : Lft y Eq kx pkx) : ∀ (n : Nat) (x6 : Int32), Lft y Eq (X6_lead_L52 t0 mi (adO y 7 0) x4 x5 kx n x6) (p_X6_lead_L52 x4 x5 pkx n x6) := by
  intro n
  induction n with
  | zero => intro x6; rw [p_X6_lead_L52]; exact Lft_flr
  | succ n ih =>
    intro x6; rw [X6_lead_L52, p_X6_lead_L52]
    refine Lft_bnd (Lft_gI (fun F => rfl)) (fun v53 z9 e9 => ?_)
    subst e9
    refine Lft_if (fun _ => ?_) (fun _ => ?_)
    · exact hkx
    · refine Lft_bnd (Lft_gA (a := (adA y 9 24)) (fun F => rfl)) (fun v63 _ e9 => ?_)
      subst e9
      refine Lft_bnd (Lft_ld rfl) (fun v68 z9 e9 => ?_)
      subst e9
      refine Lft_bnd (Lf_f_X6_legAt x4 v68) (fun v69 z9 e9 => ?_)
      subst e9
      refine Lft_bnd (Lft_gA (a := (adA y 9 27)) (fun F => rfl)) (fun v75 _ e9 => ?_)
      subst e9
      refine Lft_bnd (Lft_gI (fun F => rfl)) (fun v81 z9 e9 => ?_)
      subst e9
      refine Lft_bnd (Lft_st rfl) (fun _ _ _ => ?_)
      refine Lft_bnd (Lft_gA (a := (adA y 9 28)) (fun F => rfl)) (fun v86 _ e9 => ?_)
      subst e9
      refine Lft_bnd (Lft_gI (fun F => rfl)) (fun v92 z9 e9 => ?_)
      subst e9
      refine Lft_bnd (Lft_st rfl) (fun _ _ _ => ?_)
      refine Lft_bnd (Lft_gA (a := (adA y 9 29)) (fun F => rfl)) (fun v97 _ e9 => ?_)
      subst e9
      refine Lft_bnd (Lft_gI (fun F => rfl)) (fun v103 z9 e9 => ?_)
      subst e9
      refine Lft_bnd (Lft_st rfl) (fun _ _ _ => ?_)
      refine Lft_bnd (Lft_gA (a := (adA y 9 24)) (fun F => rfl)) (fun v108 _ e9 => ?_)
      subst e9
      refine Lft_bnd (Lft_ld rfl) (fun v114 z9 e9 => ?_)
      subst e9
      refine Lft_bnd (Lft_st rfl) (fun _ _ _ => ?_)
      refine Lft_bnd (Lft_gI (fun F => rfl)) (fun v122 z9 e9 => ?_)
      subst e9
      refine Lft_bnd (Lft_gI (fun F => rfl)) (fun v126 z9 e9 => ?_)
      subst e9
      refine Lft_bnd (Lf_f_X6_node v122 v126) (fun v129 z9 e9 => ?_)
      subst e9
      refine Lft_bnd (Lft_gA (a := (adA y 9 9)) (fun F => rfl)) (fun v138 _ e9 => ?_)
      subst e9
      refine Lft_bnd (Lft_ld rfl) (fun v143 z9 e9 => ?_)
      subst e9
      refine Lft_bnd (Lft_gA (a := (adA y 9 10)) (fun F => rfl)) (fun v145 _ e9 => ?_)
      subst e9
      refine Lft_bnd (Lft_ld rfl) (fun v150 z9 e9 => ?_)
      subst e9
      refine Lft_bnd (Lft_gA (a := (adA y 9 6)) (fun F => rfl)) (fun v152 _ e9 => ?_)
      subst e9
      refine Lft_bnd (Lft_gA (a := (adA y 9 9)) (fun F => rfl)) (fun v156 _ e9 => ?_)
      subst e9
      refine Lft_bnd (Lft_ld rfl) (fun v161 z9 e9 => ?_)
      subst e9
      refine Lft_bnd (Lft_ld rfl) (fun v162 z9 e9 => ?_)
      subst e9
      refine Lft_bnd (Lft_vc (Lf_f_X6_look (x6 + (-1)) v143 (v150 + v162) x5)) (fun _ _ _ => ?_)
      exact ih (x6 + (-1))
def p_X6_lead (x1 : Int32) (x2 : Int32) (x3 : Int32) : PM Int32 :=
    pbnd (pbnd (pchk 7 0) fun _ => p_X6_wayOf x1) fun v2 =>
    pbnd (pbnd (pchk 7 0) fun _ => p_X6_toOf x1) fun v9 =>
    pbnd (pbnd (pchk 7 0) fun _ => p_X6_reckon v9) fun _ =>
    pbnd (pchk 7 0) fun _ =>
    pbnd (pld 9 24 v2) fun v27 =>
    pbnd (pbnd (pchk 7 0) fun _ => p_X6_look ((3 : Int32) - v27) x2 x3 v9) fun _ =>
    pbnd (pgI 7 0 32) fun v42 =>
    (if v42 < (268435456 : Int32) then
    p_X6_lead_L52 v2 v9 (pbnd (pchk 7 0) fun _ =>
    pbnd (pstZ 9 22 v2 (1 : Int32)) fun _ =>
    pbnd (pchk 7 0) fun _ =>
    pbnd (pstZ 9 23 v2 (1 : Int32)) fun _ =>
    pbnd (pchk 7 0) fun _ =>
    pbnd (pst 9 25 v2 (-1 : Int32)) fun _ =>
    prtZ (1 : Int32)) FU ((3 : Int32) - v27)
    else
    prtZ (0 : Int32))
set_option maxRecDepth 20000 in
theorem Lf_f_X6_lead {y : LY} {t0 mi : Nat} (x1 : Int32) (x2 : Int32) (x3 : Int32) : Lft y Eq (f_X6_lead t0 mi (adO y 7 0) x1 x2 x3) (p_X6_lead x1 x2 x3) := by
  unfold f_X6_lead p_X6_lead
  refine Lft_bnd (Lft_vc (Lf_f_X6_wayOf x1)) (fun v2 z9 e9 => ?_)
  subst e9
  refine Lft_bnd (Lft_vc (Lf_f_X6_toOf x1)) (fun v9 z9 e9 => ?_)
  subst e9
  refine Lft_bnd (Lft_vc (Lf_f_X6_reckon v9)) (fun _ _ _ => ?_)
  refine Lft_bnd (Lft_gA (a := (adA y 9 24)) (fun F => rfl)) (fun v22 _ e9 => ?_)
  subst e9
  refine Lft_bnd (Lft_ld rfl) (fun v27 z9 e9 => ?_)
  subst e9
  refine Lft_bnd (Lft_vc (Lf_f_X6_look ((3 : Int32) - v27) x2 x3 v9)) (fun _ _ _ => ?_)
  refine Lft_bnd (Lft_gI (fun F => rfl)) (fun v42 z9 e9 => ?_)
  subst e9
  refine Lft_if (fun _ => ?_) (fun _ => ?_)
  · refine Lf_X6_lead_L52 v2 v9 _ _ ?_ FU ((3 : Int32) - v27)
    refine Lft_bnd (Lft_gA (a := (adA y 9 22)) (fun F => rfl)) (fun v173 _ e9 => ?_)
    subst e9
    refine Lft_bnd (Lft_stZ rfl) (fun _ _ _ => ?_)
    refine Lft_bnd (Lft_gA (a := (adA y 9 23)) (fun F => rfl)) (fun v181 _ e9 => ?_)
    subst e9
    refine Lft_bnd (Lft_stZ rfl) (fun _ _ _ => ?_)
    refine Lft_bnd (Lft_gA (a := (adA y 9 25)) (fun F => rfl)) (fun v189 _ e9 => ?_)
    subst e9
    refine Lft_bnd (Lft_st rfl) (fun _ _ _ => ?_)
    exact Lft_rtZ
  · exact Lft_rtZ
def p_X6_load0_L31 (x1 : Int32) (x3 : Int32) (x4 : Int32) (x5 : Int32) (kx : PM Unit) : Nat → Int32 → PM Unit
  | 0, _ => pflr
  | n + 1, x6 =>
    pbnd (pchk 7 0) fun _ =>
    pbnd (pld 9 29 x5) fun v39 =>
    (if v39 ≤ x6 then
    kx
    else
    pbnd (pchk 7 0) fun _ =>
    pbnd (pchk 7 0) fun _ =>
    pbnd (pld 9 27 x5) fun v53 =>
    pbnd (p_X6_node v53 x6) fun v56 =>
    pbnd (pld 9 11 v56) fun v60 =>
    pbnd (pst 9 11 v56 (v60 + x3)) fun _ =>
    p_X6_load0_L31 x1 x3 x4 x5 kx n (x6 + 1))
set_option maxRecDepth 20000 in
theorem Lf_X6_load0_L31 {y : LY} {t0 mi : Nat} (x1 : Int32) (x3 : Int32) (x4 : Int32) (x5 : Int32) (kx : Mo Unit) (pkx : PM Unit) (hkx : Lft y (fun (_ : Unit) (_ : Unit) => True) kx pkx) : ∀ (n : Nat) (x6 : Int32), Lft y (fun (_ : Unit) (_ : Unit) => True) (X6_load0_L31 t0 mi (adO y 7 0) x1 x3 x4 x5 kx n x6) (p_X6_load0_L31 x1 x3 x4 x5 pkx n x6) := by
  intro n
  induction n with
  | zero => intro x6; rw [p_X6_load0_L31]; exact Lft_flr
  | succ n ih =>
    intro x6; rw [X6_load0_L31, p_X6_load0_L31]
    refine Lft_bnd (Lft_gA (a := (adA y 9 29)) (fun F => rfl)) (fun v34 _ e9 => ?_)
    subst e9
    refine Lft_bnd (Lft_ld rfl) (fun v39 z9 e9 => ?_)
    subst e9
    refine Lft_if (fun _ => ?_) (fun _ => ?_)
    · exact hkx
    · refine Lft_bnd (Lft_gA (a := (adA y 9 11)) (fun F => rfl)) (fun v44 _ e9 => ?_)
      subst e9
      refine Lft_bnd (Lft_gA (a := (adA y 9 27)) (fun F => rfl)) (fun v48 _ e9 => ?_)
      subst e9
      refine Lft_bnd (Lft_ld rfl) (fun v53 z9 e9 => ?_)
      subst e9
      refine Lft_bnd (Lf_f_X6_node v53 x6) (fun v56 z9 e9 => ?_)
      subst e9
      refine Lft_bnd (Lft_ld rfl) (fun v60 z9 e9 => ?_)
      subst e9
      refine Lft_bnd (Lft_st rfl) (fun _ _ _ => ?_)
      exact ih (x6 + 1)
def p_X6_load0_L3 (x1 : Int32) (x3 : Int32) (kx : PM Unit) : Nat → Int32 → PM Unit
  | 0, _ => pflr
  | n + 1, x4 =>
    pbnd (pchk 7 0) fun _ =>
    pbnd (pld 9 24 x1) fun v10 =>
    (if v10 ≤ x4 then
    kx
    else
    pbnd (p_X6_legAt x1 x4) fun v17 =>
    pbnd (pchk 7 0) fun _ =>
    pbnd (pld 9 28 v17) fun v28 =>
    p_X6_load0_L31 x1 x3 x4 v17 (p_X6_load0_L3 x1 x3 kx n (x4 + 1)) FU v28)
set_option maxRecDepth 20000 in
theorem Lf_X6_load0_L3 {y : LY} {t0 mi : Nat} (x1 : Int32) (x3 : Int32) (kx : Mo Unit) (pkx : PM Unit) (hkx : Lft y (fun (_ : Unit) (_ : Unit) => True) kx pkx) : ∀ (n : Nat) (x4 : Int32), Lft y (fun (_ : Unit) (_ : Unit) => True) (X6_load0_L3 t0 mi (adO y 7 0) x1 x3 kx n x4) (p_X6_load0_L3 x1 x3 pkx n x4) := by
  intro n
  induction n with
  | zero => intro x4; rw [p_X6_load0_L3]; exact Lft_flr
  | succ n ih =>
    intro x4; rw [X6_load0_L3, p_X6_load0_L3]
    refine Lft_bnd (Lft_gA (a := (adA y 9 24)) (fun F => rfl)) (fun v6 _ e9 => ?_)
    subst e9
    refine Lft_bnd (Lft_ld rfl) (fun v10 z9 e9 => ?_)
    subst e9
    refine Lft_if (fun _ => ?_) (fun _ => ?_)
    · exact hkx
    · refine Lft_bnd (Lf_f_X6_legAt x1 x4) (fun v17 z9 e9 => ?_)
      subst e9
      refine Lft_bnd (Lft_gA (a := (adA y 9 28)) (fun F => rfl)) (fun v23 _ e9 => ?_)
      subst e9
      refine Lft_bnd (Lft_ld rfl) (fun v28 z9 e9 => ?_)
      subst e9
      refine Lf_X6_load0_L31 x1 x3 x4 v17 _ _ ?_ FU v28
      exact ih (x4 + 1)
def p_X6_load0 (x1 : Int32) (x2 : Int32) (x3 : Int32) : PM Unit :=
    p_X6_load0_L3 x1 x3 (prt ()) FU x2
set_option maxRecDepth 20000 in
theorem Lf_f_X6_load0 {y : LY} {t0 mi : Nat} (x1 : Int32) (x2 : Int32) (x3 : Int32) : Lft y (fun (_ : Unit) (_ : Unit) => True) (f_X6_load0 t0 mi (adO y 7 0) x1 x2 x3) (p_X6_load0 x1 x2 x3) := by
  unfold f_X6_load0 p_X6_load0
  refine Lf_X6_load0_L3 x1 x3 _ _ ?_ FU x2
  exact Lft_rt trivial
def p_X6_leadOn (x1 : Int32) (x2 : Int32) (x3 : Int32) : PM Int32 :=
    pbnd (pbnd (pchk 7 0) fun _ => p_X6_wayOf x1) fun v2 =>
    pbnd (pchk 7 0) fun _ =>
    pbnd (pld 9 24 v2) fun v13 =>
    pbnd (pbnd (pchk 7 0) fun _ => p_X6_lead x1 x2 x3) fun v20 =>
    pbnd (pbnd (pchk 7 0) fun _ => p_X6_load0 v2 v13 (1 : Int32)) fun _ =>
    prtZ v20
set_option maxRecDepth 20000 in
theorem Lf_f_X6_leadOn {y : LY} {t0 mi : Nat} (x1 : Int32) (x2 : Int32) (x3 : Int32) : Lft y Eq (f_X6_leadOn t0 mi (adO y 7 0) x1 x2 x3) (p_X6_leadOn x1 x2 x3) := by
  unfold f_X6_leadOn p_X6_leadOn
  refine Lft_bnd (Lft_vc (Lf_f_X6_wayOf x1)) (fun v2 z9 e9 => ?_)
  subst e9
  refine Lft_bnd (Lft_gA (a := (adA y 9 24)) (fun F => rfl)) (fun v8 _ e9 => ?_)
  subst e9
  refine Lft_bnd (Lft_ld rfl) (fun v13 z9 e9 => ?_)
  subst e9
  refine Lft_bnd (Lft_vc (Lf_f_X6_lead x1 x2 x3)) (fun v20 z9 e9 => ?_)
  subst e9
  refine Lft_bnd (Lft_vc (Lf_f_X6_load0 v2 v13 (1 : Int32))) (fun _ _ _ => ?_)
  exact Lft_rtZ
def p_X6_readyOf_b24 (s0 : Int32) : PM Int32 :=
    prt s0
set_option maxRecDepth 20000 in
theorem Lf_X6_readyOf_b24 {y : LY} {t0 mi : Nat} (s0 : Int32) : Lft y Eq (X6_readyOf_b24 t0 mi s0) (p_X6_readyOf_b24 s0) := by
  unfold X6_readyOf_b24 p_X6_readyOf_b24
  exact Lft_rt rfl
def p_X6_readyOf (x1 : Int32) : PM Int32 :=
    pbnd (pchk 7 0) fun _ =>
    pbnd (pld 9 21 x1) fun v5 =>
    (if v5 = 0 then
    pbnd (pchk 7 0) fun _ =>
    pbnd (pld 9 16 x1) fun v23 =>
    p_X6_readyOf_b24 v23
    else
    pbnd (pchk 7 0) fun _ =>
    pbnd (pld 9 20 x1) fun v14 =>
    p_X6_readyOf_b24 v14)
set_option maxRecDepth 20000 in
theorem Lf_f_X6_readyOf {y : LY} {t0 mi : Nat} (x1 : Int32) : Lft y Eq (f_X6_readyOf t0 mi (adO y 7 0) x1) (p_X6_readyOf x1) := by
  unfold f_X6_readyOf p_X6_readyOf
  refine Lft_bnd (Lft_gA (a := (adA y 9 21)) (fun F => rfl)) (fun v1 _ e9 => ?_)
  subst e9
  refine Lft_bnd (Lft_ld rfl) (fun v5 z9 e9 => ?_)
  subst e9
  refine Lft_if (fun _ => ?_) (fun _ => ?_)
  · refine Lft_bnd (Lft_gA (a := (adA y 9 16)) (fun F => rfl)) (fun v19 _ e9 => ?_)
    subst e9
    refine Lft_bnd (Lft_ld rfl) (fun v23 z9 e9 => ?_)
    subst e9
    exact Lf_X6_readyOf_b24 v23
  · refine Lft_bnd (Lft_gA (a := (adA y 9 20)) (fun F => rfl)) (fun v10 _ e9 => ?_)
    subst e9
    refine Lft_bnd (Lft_ld rfl) (fun v14 z9 e9 => ?_)
    subst e9
    exact Lf_X6_readyOf_b24 v14
def p_X6_fromOf_b24 (s0 : Int32) : PM Int32 :=
    prt s0
set_option maxRecDepth 20000 in
theorem Lf_X6_fromOf_b24 {y : LY} {t0 mi : Nat} (s0 : Int32) : Lft y Eq (X6_fromOf_b24 t0 mi s0) (p_X6_fromOf_b24 s0) := by
  unfold X6_fromOf_b24 p_X6_fromOf_b24
  exact Lft_rt rfl
def p_X6_fromOf (x1 : Int32) : PM Int32 :=
    pbnd (pchk 7 0) fun _ =>
    pbnd (pld 9 21 x1) fun v5 =>
    (if v5 = 0 then
    pbnd (pchk 7 0) fun _ =>
    pbnd (pld 9 14 x1) fun v23 =>
    p_X6_fromOf_b24 v23
    else
    pbnd (pchk 7 0) fun _ =>
    pbnd (pld 9 17 x1) fun v14 =>
    p_X6_fromOf_b24 v14)
set_option maxRecDepth 20000 in
theorem Lf_f_X6_fromOf {y : LY} {t0 mi : Nat} (x1 : Int32) : Lft y Eq (f_X6_fromOf t0 mi (adO y 7 0) x1) (p_X6_fromOf x1) := by
  unfold f_X6_fromOf p_X6_fromOf
  refine Lft_bnd (Lft_gA (a := (adA y 9 21)) (fun F => rfl)) (fun v1 _ e9 => ?_)
  subst e9
  refine Lft_bnd (Lft_ld rfl) (fun v5 z9 e9 => ?_)
  subst e9
  refine Lft_if (fun _ => ?_) (fun _ => ?_)
  · refine Lft_bnd (Lft_gA (a := (adA y 9 14)) (fun F => rfl)) (fun v19 _ e9 => ?_)
    subst e9
    refine Lft_bnd (Lft_ld rfl) (fun v23 z9 e9 => ?_)
    subst e9
    exact Lf_X6_fromOf_b24 v23
  · refine Lft_bnd (Lft_gA (a := (adA y 9 17)) (fun F => rfl)) (fun v10 _ e9 => ?_)
    subst e9
    refine Lft_bnd (Lft_ld rfl) (fun v14 z9 e9 => ?_)
    subst e9
    exact Lf_X6_fromOf_b24 v14
