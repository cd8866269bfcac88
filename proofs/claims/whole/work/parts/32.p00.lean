def p_X5_isWithin_b14 (s0 : Int32) : PM Int32 :=
    prtZ s0
set_option maxRecDepth 20000 in
theorem Lf_X5_isWithin_b14 {y : LY} {t0 mi : Nat} (s0 : Int32) : Lft y Eq (X5_isWithin_b14 t0 mi s0) (p_X5_isWithin_b14 s0) := by
  unfold X5_isWithin_b14 p_X5_isWithin_b14
  exact Lft_rtZ
def p_X5_isWithin_b13 : PM Int32 :=
    p_X5_isWithin_b14 (0 : Int32)
set_option maxRecDepth 20000 in
theorem Lf_X5_isWithin_b13 {y : LY} {t0 mi : Nat} : Lft y Eq (X5_isWithin_b13 t0 mi) (p_X5_isWithin_b13) := by
  unfold X5_isWithin_b13 p_X5_isWithin_b13
  exact Lf_X5_isWithin_b14 (0 : Int32)
def p_X5_isWithin (x0 : Int32) (x1 : Int32) : PM Int32 :=
    (if x0 < 0 then
    p_X5_isWithin_b13
    else
    (if x1 < x0 then
    p_X5_isWithin_b13
    else
    p_X5_isWithin_b14 (1 : Int32)))
set_option maxRecDepth 20000 in
theorem Lf_f_X5_isWithin {y : LY} {t0 mi : Nat} (x0 : Int32) (x1 : Int32) : Lft y Eq (f_X5_isWithin t0 mi x0 x1) (p_X5_isWithin x0 x1) := by
  unfold f_X5_isWithin p_X5_isWithin
  refine Lft_if (fun _ => ?_) (fun _ => ?_)
  · exact Lf_X5_isWithin_b13
  · refine Lft_if (fun _ => ?_) (fun _ => ?_)
    · exact Lf_X5_isWithin_b13
    · exact Lf_X5_isWithin_b14 (1 : Int32)
def p_X2_addStation (x1 : Int32) : PM Int32 :=
    pbnd (pgI 3 0 1) fun v1 =>
    (if v1 < (10 : Int32) then
    pbnd (pchk 3 0) fun _ =>
    pbnd (pgI 3 0 1) fun v16 =>
    pbnd (pst 0 0 v16 x1) fun _ =>
    pbnd (pgI 3 0 1) fun v23 =>
    pbnd (ppI 3 0 1 (v23 + (1 : Int32))) fun _ =>
    pbnd (pgI 3 0 1) fun v32 =>
    prt (v32 - (1 : Int32))
    else
    prt (-1 : Int32))
set_option maxRecDepth 20000 in
theorem Lf_f_X2_addStation {y : LY} {t0 mi : Nat} (x1 : Int32) : Lft y Eq (f_X2_addStation t0 mi (adO y 3 0) x1) (p_X2_addStation x1) := by
  unfold f_X2_addStation p_X2_addStation
  refine Lft_bnd (Lft_gI (fun F => rfl)) (fun v1 z9 e9 => ?_)
  subst e9
  refine Lft_if (fun _ => ?_) (fun _ => ?_)
  · refine Lft_bnd (Lft_gA (a := (adA y 0 0)) (fun F => rfl)) (fun v12 _ e9 => ?_)
    subst e9
    refine Lft_bnd (Lft_gI (fun F => rfl)) (fun v16 z9 e9 => ?_)
    subst e9
    refine Lft_bnd (Lft_st rfl) (fun _ _ _ => ?_)
    refine Lft_bnd (Lft_gI (fun F => rfl)) (fun v23 z9 e9 => ?_)
    subst e9
    refine Lft_bnd (Lft_pI ⟨by decide, by decide⟩ (fun F => ⟨by simp [fds, u3], by simp [fds]⟩)) (fun _ _ _ => ?_)
    refine Lft_bnd (Lft_gI (fun F => rfl)) (fun v32 z9 e9 => ?_)
    subst e9
    exact Lft_rt rfl
  · exact Lft_rt rfl
def p_X5_station_b21 (s0 : Int32) : PM Int32 :=
    prt s0
set_option maxRecDepth 20000 in
theorem Lf_X5_station_b21 {y : LY} {t0 mi : Nat} (s0 : Int32) : Lft y Eq (X5_station_b21 t0 mi s0) (p_X5_station_b21 s0) := by
  unfold X5_station_b21 p_X5_station_b21
  exact Lft_rt rfl
def p_X5_station (x1 : Int32) : PM Int32 :=
    pbnd (p_X5_isWithin x1 (60 : Int32)) fun v3 =>
    (if v3 = 0 then
    p_X5_station_b21 (-1 : Int32)
    else
    pbnd (pchk 6 0) fun _ =>
    pbnd (pbnd (pchk 3 0) fun _ => p_X2_addStation x1) fun v14 =>
    p_X5_station_b21 v14)
set_option maxRecDepth 20000 in
theorem Lf_f_X5_station {y : LY} {t0 mi : Nat} (x1 : Int32) : Lft y Eq (f_X5_station t0 mi (adO y 6 0) x1) (p_X5_station x1) := by
  unfold f_X5_station p_X5_station
  refine Lft_bnd (Lf_f_X5_isWithin x1 (60 : Int32)) (fun v3 z9 e9 => ?_)
  subst e9
  refine Lft_if (fun _ => ?_) (fun _ => ?_)
  · exact Lf_X5_station_b21 (-1 : Int32)
  · refine Lft_bnd (Lft_gA (a := (adO y 3 0)) (fun F => rfl)) (fun v10 _ e9 => ?_)
    subst e9
    refine Lft_bnd (Lft_vc (Lf_f_X2_addStation x1)) (fun v14 z9 e9 => ?_)
    subst e9
    exact Lf_X5_station_b21 v14
def p_X6_station_b24 : PM Int32 :=
    prt (-1 : Int32)
set_option maxRecDepth 20000 in
theorem Lf_X6_station_b24 {y : LY} {t0 mi : Nat} : Lft y Eq (X6_station_b24 t0 mi) (p_X6_station_b24) := by
  unfold X6_station_b24 p_X6_station_b24
  exact Lft_rt rfl
def p_X6_station (x1 : Int32) : PM Int32 :=
    pbnd (ppI 7 0 0 (0 : Int32)) fun _ =>
    pbnd (pgI 7 0 2) fun v6 =>
    (if v6 = (10 : Int32) then
    p_X6_station_b24
    else
    (if x1 < 0 then
    p_X6_station_b24
    else
    (if x1 ≤ (60 : Int32) then
    pbnd (pchk 7 0) fun _ =>
    pbnd (pgI 7 0 2) fun v31 =>
    pbnd (pst 9 6 v31 x1) fun _ =>
    pbnd (pgI 7 0 2) fun v38 =>
    pbnd (ppI 7 0 2 (v38 + (1 : Int32))) fun _ =>
    pbnd (pgI 7 0 2) fun v47 =>
    prt (v47 - (1 : Int32))
    else
    p_X6_station_b24)))
set_option maxRecDepth 20000 in
theorem Lf_f_X6_station {y : LY} {t0 mi : Nat} (x1 : Int32) : Lft y Eq (f_X6_station t0 mi (adO y 7 0) x1) (p_X6_station x1) := by
  unfold f_X6_station p_X6_station
  refine Lft_bnd (Lft_pI ⟨by decide, by decide⟩ (fun F => ⟨by simp [fds, u3], by simp [fds]⟩)) (fun _ _ _ => ?_)
  refine Lft_bnd (Lft_gI (fun F => rfl)) (fun v6 z9 e9 => ?_)
  subst e9
  refine Lft_if (fun _ => ?_) (fun _ => ?_)
  · exact Lf_X6_station_b24
  · refine Lft_if (fun _ => ?_) (fun _ => ?_)
    · exact Lf_X6_station_b24
    · refine Lft_if (fun _ => ?_) (fun _ => ?_)
      · refine Lft_bnd (Lft_gA (a := (adA y 9 6)) (fun F => rfl)) (fun v27 _ e9 => ?_)
        subst e9
        refine Lft_bnd (Lft_gI (fun F => rfl)) (fun v31 z9 e9 => ?_)
        subst e9
        refine Lft_bnd (Lft_st rfl) (fun _ _ _ => ?_)
        refine Lft_bnd (Lft_gI (fun F => rfl)) (fun v38 z9 e9 => ?_)
        subst e9
        refine Lft_bnd (Lft_pI ⟨by decide, by decide⟩ (fun F => ⟨by simp [fds, u3], by simp [fds]⟩)) (fun _ _ _ => ?_)
        refine Lft_bnd (Lft_gI (fun F => rfl)) (fun v47 z9 e9 => ?_)
        subst e9
        exact Lft_rt rfl
      · exact Lf_X6_station_b24
def p_X6_train_b25 : PM Int32 :=
    prt (-1 : Int32)
set_option maxRecDepth 20000 in
theorem Lf_X6_train_b25 {y : LY} {t0 mi : Nat} : Lft y Eq (X6_train_b25 t0 mi) (p_X6_train_b25) := by
  unfold X6_train_b25 p_X6_train_b25
  exact Lft_rt rfl
def p_X6_train (x1 : Int32) : PM Int32 :=
    pbnd (ppI 7 0 0 (0 : Int32)) fun _ =>
    pbnd (pgI 7 0 3) fun v6 =>
    (if v6 = (16 : Int32) then
    p_X6_train_b25
    else
    (if x1 < (1 : Int32) then
    p_X6_train_b25
    else
    (if x1 ≤ (40 : Int32) then
    pbnd (pchk 7 0) fun _ =>
    pbnd (pgI 7 0 3) fun v32 =>
    pbnd (pst 9 7 v32 x1) fun _ =>
    pbnd (pgI 7 0 3) fun v39 =>
    pbnd (ppI 7 0 3 (v39 + (1 : Int32))) fun _ =>
    pbnd (pgI 7 0 3) fun v48 =>
    prt (v48 - (1 : Int32))
    else
    p_X6_train_b25)))
set_option maxRecDepth 20000 in
theorem Lf_f_X6_train {y : LY} {t0 mi : Nat} (x1 : Int32) : Lft y Eq (f_X6_train t0 mi (adO y 7 0) x1) (p_X6_train x1) := by
  unfold f_X6_train p_X6_train
  refine Lft_bnd (Lft_pI ⟨by decide, by decide⟩ (fun F => ⟨by simp [fds, u3], by simp [fds]⟩)) (fun _ _ _ => ?_)
  refine Lft_bnd (Lft_gI (fun F => rfl)) (fun v6 z9 e9 => ?_)
  subst e9
  refine Lft_if (fun _ => ?_) (fun _ => ?_)
  · exact Lf_X6_train_b25
  · refine Lft_if (fun _ => ?_) (fun _ => ?_)
    · exact Lf_X6_train_b25
    · refine Lft_if (fun _ => ?_) (fun _ => ?_)
      · refine Lft_bnd (Lft_gA (a := (adA y 9 7)) (fun F => rfl)) (fun v28 _ e9 => ?_)
        subst e9
        refine Lft_bnd (Lft_gI (fun F => rfl)) (fun v32 z9 e9 => ?_)
        subst e9
        refine Lft_bnd (Lft_st rfl) (fun _ _ _ => ?_)
        refine Lft_bnd (Lft_gI (fun F => rfl)) (fun v39 z9 e9 => ?_)
        subst e9
        refine Lft_bnd (Lft_pI ⟨by decide, by decide⟩ (fun F => ⟨by simp [fds, u3], by simp [fds]⟩)) (fun _ _ _ => ?_)
        refine Lft_bnd (Lft_gI (fun F => rfl)) (fun v48 z9 e9 => ?_)
        subst e9
        exact Lft_rt rfl
      · exact Lf_X6_train_b25
def p_X5_trainOf_b18 : PM Nat :=
    pthr "java/util/NoSuchElementException"
set_option maxRecDepth 20000 in
theorem Lf_X5_trainOf_b18 {y : LY} {t0 mi : Nat} : Lft y (fun x z => x = adO y 4 z) (X5_trainOf_b18 t0 mi) (p_X5_trainOf_b18) := by
  unfold X5_trainOf_b18 p_X5_trainOf_b18
  exact Lft_thr
def p_X5_trainOf (x1 : Int32) : PM Nat :=
    (if x1 < 0 then
    p_X5_trainOf_b18
    else
    pbnd (pchk 6 0) fun _ =>
    pbnd (pchk 3 0) fun _ =>
    pbnd (pbnd (pchk 0 0) fun _ => psiz 0) fun v12 =>
    (if x1 < v12 then
    pbnd (pchk 6 0) fun _ =>
    pbnd (pchk 3 0) fun _ =>
    pbnd (pbnd (pchk 0 0) fun _ => pget 0 x1) fun _ =>
    pbnd (pchk 4 x1.toNatClampNeg) fun _ =>
    prt x1.toNatClampNeg
    else
    p_X5_trainOf_b18))
set_option maxRecDepth 20000 in
theorem Lf_f_X5_trainOf {y : LY} {t0 mi : Nat} (x1 : Int32) : Lft y (fun x z => x = adO y 4 z) (f_X5_trainOf t0 mi (adO y 6 0) x1) (p_X5_trainOf x1) := by
  unfold f_X5_trainOf p_X5_trainOf
  refine Lft_if (fun _ => ?_) (fun _ => ?_)
  · exact Lf_X5_trainOf_b18
  · refine Lft_bnd (Lft_gA (a := (adO y 3 0)) (fun F => rfl)) (fun v6 _ e9 => ?_)
    subst e9
    refine Lft_bnd (Lft_gA (a := (adO y 0 0)) (fun F => rfl)) (fun v9 _ e9 => ?_)
    subst e9
    refine Lft_bnd (Lft_vc (Lft_siz (by decide))) (fun v12 z9 e9 => ?_)
    subst e9
    refine Lft_if (fun _ => ?_) (fun _ => ?_)
    · refine Lft_bnd (Lft_gA (a := (adO y 3 0)) (fun F => rfl)) (fun v29 _ e9 => ?_)
      subst e9
      refine Lft_bnd (Lft_gA (a := (adO y 0 0)) (fun F => rfl)) (fun v32 _ e9 => ?_)
      subst e9
      refine Lft_bnd (Lft_vc (Lft_get0)) (fun v36 _ e9 => ?_)
      subst e9
      refine Lft_bnd (Lft_isC) (fun _ _ _ => ?_)
      exact Lft_rt rfl
    · exact Lf_X5_trainOf_b18
def p_X2_hasStation_b17 (s0 : Int32) : PM Int32 :=
    prtZ s0
set_option maxRecDepth 20000 in
theorem Lf_X2_hasStation_b17 {y : LY} {t0 mi : Nat} (s0 : Int32) : Lft y Eq (X2_hasStation_b17 t0 mi s0) (p_X2_hasStation_b17 s0) := by
  unfold X2_hasStation_b17 p_X2_hasStation_b17
  exact Lft_rtZ
def p_X2_hasStation_b16 : PM Int32 :=
    p_X2_hasStation_b17 (0 : Int32)
set_option maxRecDepth 20000 in
theorem Lf_X2_hasStation_b16 {y : LY} {t0 mi : Nat} : Lft y Eq (X2_hasStation_b16 t0 mi) (p_X2_hasStation_b16) := by
  unfold X2_hasStation_b16 p_X2_hasStation_b16
  exact Lf_X2_hasStation_b17 (0 : Int32)
def p_X2_hasStation (x1 : Int32) : PM Int32 :=
    (if x1 < 0 then
    p_X2_hasStation_b16
    else
    pbnd (pgI 3 0 1) fun v6 =>
    (if v6 ≤ x1 then
    p_X2_hasStation_b16
    else
    p_X2_hasStation_b17 (1 : Int32)))
set_option maxRecDepth 20000 in
theorem Lf_f_X2_hasStation {y : LY} {t0 mi : Nat} (x1 : Int32) : Lft y Eq (f_X2_hasStation t0 mi (adO y 3 0) x1) (p_X2_hasStation x1) := by
  unfold f_X2_hasStation p_X2_hasStation
  refine Lft_if (fun _ => ?_) (fun _ => ?_)
  · exact Lf_X2_hasStation_b16
  · refine Lft_bnd (Lft_gI (fun F => rfl)) (fun v6 z9 e9 => ?_)
    subst e9
    refine Lft_if (fun _ => ?_) (fun _ => ?_)
    · exact Lf_X2_hasStation_b16
    · exact Lf_X2_hasStation_b17 (1 : Int32)
def p_X5_isMinute (x0 : Int32) : PM Int32 :=
    pbnd (p_X5_isWithin x0 (1439 : Int32)) fun v4 =>
    prtZ v4
set_option maxRecDepth 20000 in
theorem Lf_f_X5_isMinute {y : LY} {t0 mi : Nat} (x0 : Int32) : Lft y Eq (f_X5_isMinute t0 mi x0) (p_X5_isMinute x0) := by
  unfold f_X5_isMinute p_X5_isMinute
  refine Lft_bnd (Lf_f_X5_isWithin x0 (1439 : Int32)) (fun v4 z9 e9 => ?_)
  subst e9
  exact Lft_rtZ
def p_X3_isUsed_L2 (x0 : Nat) (kx : PM Int32) : Nat → Int32 → PM Int32
  | 0, _ => pflr
  | n + 1, x1 =>
    (if (10 : Int32) ≤ x1 then
    kx
    else
    pbnd (pchk 4 x0) fun _ =>
    pbnd (pld 7 x0 x1) fun v13 =>
    (if v13 ≤ 0 then
    p_X3_isUsed_L2 x0 kx n (x1 + 1)
    else
    prtZ (1 : Int32)))
set_option maxRecDepth 20000 in
theorem Lf_X3_isUsed_L2 {y : LY} {t0 mi : Nat} (x0 : Nat) (kx : Mo Int32) (pkx : PM Int32) (hkx : Lft y Eq kx pkx) : ∀ (n : Nat) (x1 : Int32), Lft y Eq (X3_isUsed_L2 t0 mi (adO y 4 x0) kx n x1) (p_X3_isUsed_L2 x0 pkx n x1) := by
  intro n
  induction n with
  | zero => intro x1; rw [p_X3_isUsed_L2]; exact Lft_flr
  | succ n ih =>
    intro x1; rw [X3_isUsed_L2, p_X3_isUsed_L2]
    refine Lft_if (fun _ => ?_) (fun _ => ?_)
    · exact hkx
    · refine Lft_bnd (Lft_gA (a := (adA y 7 x0)) (fun F => rfl)) (fun v9 _ e9 => ?_)
      subst e9
      refine Lft_bnd (Lft_ld rfl) (fun v13 z9 e9 => ?_)
      subst e9
      refine Lft_if (fun _ => ?_) (fun _ => ?_)
      · exact ih (x1 + 1)
      · exact Lft_rtZ
def p_X3_isUsed (x0 : Nat) : PM Int32 :=
    p_X3_isUsed_L2 x0 (prtZ (0 : Int32)) FU (0 : Int32)
set_option maxRecDepth 20000 in
theorem Lf_f_X3_isUsed {y : LY} {t0 mi : Nat} (x0 : Nat) : Lft y Eq (f_X3_isUsed t0 mi (adO y 4 x0)) (p_X3_isUsed x0) := by
  unfold f_X3_isUsed p_X3_isUsed
  refine Lf_X3_isUsed_L2 x0 _ _ ?_ FU (0 : Int32)
  exact Lft_rtZ
def p_X3_mayFollow_b42 (s0 : Int32) : PM Int32 :=
    prtZ s0
set_option maxRecDepth 20000 in
theorem Lf_X3_mayFollow_b42 {y : LY} {t0 mi : Nat} (s0 : Int32) : Lft y Eq (X3_mayFollow_b42 t0 mi s0) (p_X3_mayFollow_b42 s0) := by
  unfold X3_mayFollow_b42 p_X3_mayFollow_b42
  exact Lft_rtZ
def p_X3_mayFollow_b37 : PM Int32 :=
    p_X3_mayFollow_b42 (1 : Int32)
set_option maxRecDepth 20000 in
theorem Lf_X3_mayFollow_b37 {y : LY} {t0 mi : Nat} : Lft y Eq (X3_mayFollow_b37 t0 mi) (p_X3_mayFollow_b37) := by
  unfold X3_mayFollow_b37 p_X3_mayFollow_b37
  exact Lf_X3_mayFollow_b42 (1 : Int32)
def p_X3_mayFollow_b41 : PM Int32 :=
    p_X3_mayFollow_b42 (0 : Int32)
set_option maxRecDepth 20000 in
theorem Lf_X3_mayFollow_b41 {y : LY} {t0 mi : Nat} : Lft y Eq (X3_mayFollow_b41 t0 mi) (p_X3_mayFollow_b41) := by
  unfold X3_mayFollow_b41 p_X3_mayFollow_b41
  exact Lf_X3_mayFollow_b42 (0 : Int32)
def p_X3_mayFollow (x0 : Nat) (x1 : Int32) (x2 : Int32) : PM Int32 :=
    pbnd (pgI 4 x0 4) fun v1 =>
    (if v1 = 0 then
    p_X3_mayFollow_b37
    else
    pbnd (pchk 4 x0) fun _ =>
    pbnd (pgI 4 x0 4) fun v12 =>
    pbnd (pld 6 x0 (v12 - (1 : Int32))) fun v17 =>
    (if x2 ≤ v17 then
    p_X3_mayFollow_b41
    else
    pbnd (pchk 4 x0) fun _ =>
    pbnd (pgI 4 x0 4) fun v27 =>
    pbnd (pld 5 x0 (v27 - (1 : Int32))) fun v32 =>
    (if v32 = x1 then
    p_X3_mayFollow_b41
    else
    p_X3_mayFollow_b37)))
set_option maxRecDepth 20000 in
theorem Lf_f_X3_mayFollow {y : LY} {t0 mi : Nat} (x0 : Nat) (x1 : Int32) (x2 : Int32) : Lft y Eq (f_X3_mayFollow t0 mi (adO y 4 x0) x1 x2) (p_X3_mayFollow x0 x1 x2) := by
  unfold f_X3_mayFollow p_X3_mayFollow
  refine Lft_bnd (Lft_gI (fun F => rfl)) (fun v1 z9 e9 => ?_)
  subst e9
  refine Lft_if (fun _ => ?_) (fun _ => ?_)
  · exact Lf_X3_mayFollow_b37
  · refine Lft_bnd (Lft_gA (a := (adA y 6 x0)) (fun F => rfl)) (fun v8 _ e9 => ?_)
    subst e9
    refine Lft_bnd (Lft_gI (fun F => rfl)) (fun v12 z9 e9 => ?_)
    subst e9
    refine Lft_bnd (Lft_ld rfl) (fun v17 z9 e9 => ?_)
    subst e9
    refine Lft_if (fun _ => ?_) (fun _ => ?_)
    · exact Lf_X3_mayFollow_b41
    · refine Lft_bnd (Lft_gA (a := (adA y 5 x0)) (fun F => rfl)) (fun v23 _ e9 => ?_)
      subst e9
      refine Lft_bnd (Lft_gI (fun F => rfl)) (fun v27 z9 e9 => ?_)
      subst e9
      refine Lft_bnd (Lft_ld rfl) (fun v32 z9 e9 => ?_)
      subst e9
      refine Lft_if (fun _ => ?_) (fun _ => ?_)
      · exact Lf_X3_mayFollow_b41
      · exact Lf_X3_mayFollow_b37
def p_X3_addStop_b18 : PM Int32 :=
    prt (-1 : Int32)
set_option maxRecDepth 20000 in
theorem Lf_X3_addStop_b18 {y : LY} {t0 mi : Nat} : Lft y Eq (X3_addStop_b18 t0 mi) (p_X3_addStop_b18) := by
  unfold X3_addStop_b18 p_X3_addStop_b18
  exact Lft_rt rfl
def p_X3_addStop (x0 : Nat) (x1 : Int32) (x2 : Int32) : PM Int32 :=
    pbnd (pgI 4 x0 4) fun v1 =>
    (if (10 : Int32) ≤ v1 then
    p_X3_addStop_b18
    else
    pbnd (pbnd (pchk 4 x0) fun _ => p_X3_mayFollow x0 x1 x2) fun v12 =>
    (if v12 = 0 then
    p_X3_addStop_b18
    else
    pbnd (pchk 4 x0) fun _ =>
    pbnd (pgI 4 x0 4) fun v25 =>
    pbnd (pst 5 x0 v25 x1) fun _ =>
    pbnd (pchk 4 x0) fun _ =>
    pbnd (pgI 4 x0 4) fun v35 =>
    pbnd (pst 6 x0 v35 x2) fun _ =>
    pbnd (pgI 4 x0 4) fun v42 =>
    pbnd (ppI 4 x0 4 (v42 + (1 : Int32))) fun _ =>
    pbnd (pgI 4 x0 4) fun v51 =>
    prt (v51 - (1 : Int32))))
set_option maxRecDepth 20000 in
theorem Lf_f_X3_addStop {y : LY} {t0 mi : Nat} (x0 : Nat) (x1 : Int32) (x2 : Int32) : Lft y Eq (f_X3_addStop t0 mi (adO y 4 x0) x1 x2) (p_X3_addStop x0 x1 x2) := by
  unfold f_X3_addStop p_X3_addStop
  refine Lft_bnd (Lft_gI (fun F => rfl)) (fun v1 z9 e9 => ?_)
  subst e9
  refine Lft_if (fun _ => ?_) (fun _ => ?_)
  · exact Lf_X3_addStop_b18
  · refine Lft_bnd (Lft_vc (Lf_f_X3_mayFollow x0 x1 x2)) (fun v12 z9 e9 => ?_)
    subst e9
    refine Lft_if (fun _ => ?_) (fun _ => ?_)
    · exact Lf_X3_addStop_b18
    · refine Lft_bnd (Lft_gA (a := (adA y 5 x0)) (fun F => rfl)) (fun v21 _ e9 => ?_)
      subst e9
      refine Lft_bnd (Lft_gI (fun F => rfl)) (fun v25 z9 e9 => ?_)
      subst e9
      refine Lft_bnd (Lft_st rfl) (fun _ _ _ => ?_)
      refine Lft_bnd (Lft_gA (a := (adA y 6 x0)) (fun F => rfl)) (fun v31 _ e9 => ?_)
      subst e9
      refine Lft_bnd (Lft_gI (fun F => rfl)) (fun v35 z9 e9 => ?_)
      subst e9
      refine Lft_bnd (Lft_st rfl) (fun _ _ _ => ?_)
      refine Lft_bnd (Lft_gI (fun F => rfl)) (fun v42 z9 e9 => ?_)
      subst e9
      refine Lft_bnd (Lft_pI ⟨by decide, by decide⟩ (fun F => ⟨by simp [fds, u3], by simp [fds]⟩)) (fun _ _ _ => ?_)
      refine Lft_bnd (Lft_gI (fun F => rfl)) (fun v51 z9 e9 => ?_)
      subst e9
      exact Lft_rt rfl
def p_X5_stop_b33 : PM Int32 :=
    prt (-1 : Int32)
set_option maxRecDepth 20000 in
theorem Lf_X5_stop_b33 {y : LY} {t0 mi : Nat} : Lft y Eq (X5_stop_b33 t0 mi) (p_X5_stop_b33) := by
  unfold X5_stop_b33 p_X5_stop_b33
  exact Lft_rt rfl
def p_X5_stop (x1 : Int32) (x2 : Int32) (x3 : Int32) : PM Int32 :=
    pbnd (pbnd (pchk 6 0) fun _ => p_X5_trainOf x1) fun v2 =>
    pbnd (pchk 6 0) fun _ =>
    pbnd (pbnd (pchk 3 0) fun _ => p_X2_hasStation x2) fun v12 =>
    (if v12 = 0 then
    p_X5_stop_b33
    else
    pbnd (p_X5_isMinute x3) fun v19 =>
    (if v19 = 0 then
    p_X5_stop_b33
    else
    pbnd (pbnd (pchk 4 v2) fun _ => p_X3_isUsed v2) fun v27 =>
    (if v27 = 0 then
    pbnd (pbnd (pchk 4 v2) fun _ => p_X3_addStop v2 x2 x3) fun v39 =>
    prt v39
    else
    p_X5_stop_b33)))
set_option maxRecDepth 20000 in
theorem Lf_f_X5_stop {y : LY} {t0 mi : Nat} (x1 : Int32) (x2 : Int32) (x3 : Int32) : Lft y Eq (f_X5_stop t0 mi (adO y 6 0) x1 x2 x3) (p_X5_stop x1 x2 x3) := by
  unfold f_X5_stop p_X5_stop
  refine Lft_bnd (Lft_vc (Lf_f_X5_trainOf x1)) (fun x9 v2 e9 => ?_)
  subst e9
  refine Lft_bnd (Lft_gA (a := (adO y 3 0)) (fun F => rfl)) (fun v8 _ e9 => ?_)
  subst e9
  refine Lft_bnd (Lft_vc (Lf_f_X2_hasStation x2)) (fun v12 z9 e9 => ?_)
  subst e9
  refine Lft_if (fun _ => ?_) (fun _ => ?_)
  · exact Lf_X5_stop_b33
  · refine Lft_bnd (Lf_f_X5_isMinute x3) (fun v19 z9 e9 => ?_)
    subst e9
    refine Lft_if (fun _ => ?_) (fun _ => ?_)
    · exact Lf_X5_stop_b33
    · refine Lft_bnd (Lft_vc (Lf_f_X3_isUsed v2)) (fun v27 z9 e9 => ?_)
      subst e9
      refine Lft_if (fun _ => ?_) (fun _ => ?_)
      · refine Lft_bnd (Lft_vc (Lf_f_X3_addStop v2 x2 x3)) (fun v39 z9 e9 => ?_)
        subst e9
        exact Lft_rt rfl
      · exact Lf_X5_stop_b33
def p_L_stop (x1 : Int32) (x2 : Int32) (x3 : Int32) : PM Int32 :=
    pctc (pbnd (pchk 6 0) fun _ => p_X5_stop x1 x2 x3) (fun v7 =>
    pbnd (pstO (0 : Int32) v7.toInt64) fun _ =>
    prt (0 : Int32)) (fun E =>
    (if E = "java/util/NoSuchElementException" then
    prt (1 : Int32)
    else
    pflr))
set_option maxRecDepth 20000 in
theorem Lf_f_L_stop {y : LY} {t0 mi : Nat} (x1 : Int32) (x2 : Int32) (x3 : Int32) : Lft y Eq (f_L_stop t0 mi (adO y 6 0) x1 x2 x3 (yB y + 45)) (p_L_stop x1 x2 x3) := by
  unfold f_L_stop p_L_stop
  refine Lft_ctc (Lft_vc (Lf_f_X5_stop x1 x2 x3)) (fun v7 z9 e9 => ?_) (fun E => ?_)
  · subst e9
    refine Lft_bnd (Lft_stO) (fun _ _ _ => ?_)
    exact Lft_rt rfl
  · refine Lft_if (fun _ => ?_) (fun _ => ?_)
    · exact Lft_rt rfl
    · exact Lft_flr
def p_X6_isTrain_b17 (s0 : Int32) : PM Int32 :=
    prtZ s0
set_option maxRecDepth 20000 in
theorem Lf_X6_isTrain_b17 {y : LY} {t0 mi : Nat} (s0 : Int32) : Lft y Eq (X6_isTrain_b17 t0 mi s0) (p_X6_isTrain_b17 s0) := by
  unfold X6_isTrain_b17 p_X6_isTrain_b17
  exact Lft_rtZ
def p_X6_isTrain_b16 : PM Int32 :=
    p_X6_isTrain_b17 (0 : Int32)
set_option maxRecDepth 20000 in
theorem Lf_X6_isTrain_b16 {y : LY} {t0 mi : Nat} : Lft y Eq (X6_isTrain_b16 t0 mi) (p_X6_isTrain_b16) := by
  unfold X6_isTrain_b16 p_X6_isTrain_b16
  exact Lf_X6_isTrain_b17 (0 : Int32)
def p_X6_isTrain (x1 : Int32) : PM Int32 :=
    (if x1 < 0 then
    p_X6_isTrain_b16
    else
    pbnd (pgI 7 0 3) fun v6 =>
    (if v6 ≤ x1 then
    p_X6_isTrain_b16
    else
    p_X6_isTrain_b17 (1 : Int32)))
set_option maxRecDepth 20000 in
theorem Lf_f_X6_isTrain {y : LY} {t0 mi : Nat} (x1 : Int32) : Lft y Eq (f_X6_isTrain t0 mi (adO y 7 0) x1) (p_X6_isTrain x1) := by
  unfold f_X6_isTrain p_X6_isTrain
  refine Lft_if (fun _ => ?_) (fun _ => ?_)
  · exact Lf_X6_isTrain_b16
  · refine Lft_bnd (Lft_gI (fun F => rfl)) (fun v6 z9 e9 => ?_)
    subst e9
    refine Lft_if (fun _ => ?_) (fun _ => ?_)
    · exact Lf_X6_isTrain_b16
    · exact Lf_X6_isTrain_b17 (1 : Int32)
def p_X6_fail : PM Int32 :=
    pbnd (ppI 7 0 0 (1 : Int32)) fun _ =>
    prt (0 : Int32)
set_option maxRecDepth 20000 in
theorem Lf_f_X6_fail {y : LY} {t0 mi : Nat} : Lft y Eq (f_X6_fail t0 mi (adO y 7 0)) (p_X6_fail) := by
  unfold f_X6_fail p_X6_fail
  refine Lft_bnd (Lft_pI ⟨by decide, by decide⟩ (fun F => ⟨by simp [fds, u3], by simp [fds]⟩)) (fun _ _ _ => ?_)
  exact Lft_rt rfl
def p_X6_node (x0 : Int32) (x1 : Int32) : PM Int32 :=
    prt (((10 : Int32) * x0) + x1)
set_option maxRecDepth 20000 in
theorem Lf_f_X6_node {y : LY} {t0 mi : Nat} (x0 : Int32) (x1 : Int32) : Lft y Eq (f_X6_node t0 mi x0 x1) (p_X6_node x0 x1) := by
  unfold f_X6_node p_X6_node
  exact Lft_rt rfl
def p_X6_stop_b56 (kh32 : Int32 → Int32 → PM Int32) (x1 : Int32) (x2 : Int32) (x3 : Int32) (x4 : Int32) (x5 : Int32) (x6 : Int32) : PM Int32 :=
    kh32 x5 (x6 + 1)
set_option maxRecDepth 20000 in
theorem Lf_X6_stop_b56 {y : LY} {t0 mi : Nat} (x1 : Int32) (x2 : Int32) (x3 : Int32) (x4 : Int32) (x5 : Int32) (x6 : Int32) (kh32 : Int32 → Int32 → Mo Int32) (pkh32 : Int32 → Int32 → PM Int32) (hkh32 : ∀ (z0 : Int32) (z1 : Int32), Lft y Eq (kh32 z0 z1) (pkh32 z0 z1)) : Lft y Eq (X6_stop_b56 t0 mi kh32 (adO y 7 0) x1 x2 x3 x4 x5 x6) (p_X6_stop_b56 pkh32 x1 x2 x3 x4 x5 x6) := by
  unfold X6_stop_b56 p_X6_stop_b56
  exact hkh32 x5 (x6 + 1)
def p_X6_stop_L32 (x1 : Int32) (x2 : Int32) (x3 : Int32) (x4 : Int32) (kx : Int32 → PM Int32) : Nat → Int32 → Int32 → PM Int32
  | 0, _, _ => pflr
  | n + 1, x5, x6 =>
    (if x4 ≤ x6 then
    kx x5
    else
    pbnd (pchk 7 0) fun _ =>
    pbnd (p_X6_node x1 x6) fun v46 =>
    pbnd (pld 9 11 v46) fun v49 =>
    (if v49 ≤ 0 then
    p_X6_stop_b56 (p_X6_stop_L32 x1 x2 x3 x4 kx n) x1 x2 x3 x4 x5 x6
    else
    p_X6_stop_b56 (p_X6_stop_L32 x1 x2 x3 x4 kx n) x1 x2 x3 x4 (1 : Int32) x6))
set_option maxRecDepth 20000 in
theorem Lf_X6_stop_L32 {y : LY} {t0 mi : Nat} (x1 : Int32) (x2 : Int32) (x3 : Int32) (x4 : Int32) (kx : Int32 → Mo Int32) (pkx : Int32 → PM Int32) (hkx : ∀ (z0 : Int32), Lft y Eq (kx z0) (pkx z0)) : ∀ (n : Nat) (x5 : Int32) (x6 : Int32), Lft y Eq (X6_stop_L32 t0 mi (adO y 7 0) x1 x2 x3 x4 kx n x5 x6) (p_X6_stop_L32 x1 x2 x3 x4 pkx n x5 x6) := by
  intro n
  induction n with
  | zero => intro x5 x6; rw [p_X6_stop_L32]; exact Lft_flr
  | succ n ih =>
    intro x5 x6; rw [X6_stop_L32, p_X6_stop_L32]
    refine Lft_if (fun _ => ?_) (fun _ => ?_)
    · exact hkx x5
    · refine Lft_bnd (Lft_gA (a := (adA y 9 11)) (fun F => rfl)) (fun v40 _ e9 => ?_)
      subst e9
      refine Lft_bnd (Lf_f_X6_node x1 x6) (fun v46 z9 e9 => ?_)
      subst e9
      refine Lft_bnd (Lft_ld rfl) (fun v49 z9 e9 => ?_)
      subst e9
      refine Lft_if (fun _ => ?_) (fun _ => ?_)
      · exact Lf_X6_stop_b56 x1 x2 x3 x4 x5 x6 _ _ ih
      · exact Lf_X6_stop_b56 x1 x2 x3 x4 (1 : Int32) x6 _ _ ih
def p_X6_stop_b97 : PM Int32 :=
    prt (-1 : Int32)
set_option maxRecDepth 20000 in
theorem Lf_X6_stop_b97 {y : LY} {t0 mi : Nat} : Lft y Eq (X6_stop_b97 t0 mi) (p_X6_stop_b97) := by
  unfold X6_stop_b97 p_X6_stop_b97
  exact Lft_rt rfl
def p_X6_stop_b140 (x1 : Int32) (x2 : Int32) (x3 : Int32) (x4 : Int32) : PM Int32 :=
    pbnd (pchk 7 0) fun _ =>
    pbnd (p_X6_node x1 x4) fun v147 =>
    pbnd (pst 9 9 v147 x2) fun _ =>
    pbnd (pchk 7 0) fun _ =>
    pbnd (p_X6_node x1 x4) fun v159 =>
    pbnd (pst 9 10 v159 x3) fun _ =>
    pbnd (pchk 7 0) fun _ =>
    pbnd (pld 9 8 x1) fun v170 =>
    pbnd (pst 9 8 x1 (v170 + (1 : Int32))) fun _ =>
    prt x4
set_option maxRecDepth 20000 in
theorem Lf_X6_stop_b140 {y : LY} {t0 mi : Nat} (x1 : Int32) (x2 : Int32) (x3 : Int32) (x4 : Int32) : Lft y Eq (X6_stop_b140 t0 mi (adO y 7 0) x1 x2 x3 x4) (p_X6_stop_b140 x1 x2 x3 x4) := by
  unfold X6_stop_b140 p_X6_stop_b140
  refine Lft_bnd (Lft_gA (a := (adA y 9 9)) (fun F => rfl)) (fun v141 _ e9 => ?_)
  subst e9
  refine Lft_bnd (Lf_f_X6_node x1 x4) (fun v147 z9 e9 => ?_)
  subst e9
  refine Lft_bnd (Lft_st rfl) (fun _ _ _ => ?_)
  refine Lft_bnd (Lft_gA (a := (adA y 9 10)) (fun F => rfl)) (fun v153 _ e9 => ?_)
  subst e9
  refine Lft_bnd (Lf_f_X6_node x1 x4) (fun v159 z9 e9 => ?_)
  subst e9
  refine Lft_bnd (Lft_st rfl) (fun _ _ _ => ?_)
  refine Lft_bnd (Lft_gA (a := (adA y 9 8)) (fun F => rfl)) (fun v165 _ e9 => ?_)
  subst e9
  refine Lft_bnd (Lft_ld rfl) (fun v170 z9 e9 => ?_)
  subst e9
  refine Lft_bnd (Lft_st rfl) (fun _ _ _ => ?_)
  exact Lft_rt rfl
def p_X6_stop_b138 : PM Int32 :=
    prt (-1 : Int32)
set_option maxRecDepth 20000 in
theorem Lf_X6_stop_b138 {y : LY} {t0 mi : Nat} : Lft y Eq (X6_stop_b138 t0 mi) (p_X6_stop_b138) := by
  unfold X6_stop_b138 p_X6_stop_b138
  exact Lft_rt rfl
def p_X6_stop (x1 : Int32) (x2 : Int32) (x3 : Int32) : PM Int32 :=
    pbnd (ppI 7 0 0 (0 : Int32)) fun _ =>
    pbnd (pbnd (pchk 7 0) fun _ => p_X6_isTrain x1) fun v7 =>
    (if v7 = 0 then
    pbnd (pbnd (pchk 7 0) fun _ => p_X6_fail) fun v14 =>
    prt v14
    else
    pbnd (pchk 7 0) fun _ =>
    pbnd (pld 9 8 x1) fun v23 =>
    p_X6_stop_L32 x1 x2 x3 v23 (fun y1_5 =>
    (if v23 = (10 : Int32) then
    p_X6_stop_b97
    else
    (if y1_5 = 0 then
    (if x2 < 0 then
    p_X6_stop_b97
    else
    pbnd (pgI 7 0 2) fun v80 =>
    (if v80 ≤ x2 then
    p_X6_stop_b97
    else
    (if x3 < 0 then
    p_X6_stop_b97
    else
    (if x3 ≤ (1439 : Int32) then
    (if v23 ≤ 0 then
    p_X6_stop_b140 x1 x2 x3 v23
    else
    pbnd (pchk 7 0) fun _ =>
    pbnd (p_X6_node x1 (v23 - (1 : Int32))) fun v113 =>
    pbnd (pld 9 10 v113) fun v116 =>
    (if x3 ≤ v116 then
    p_X6_stop_b138
    else
    pbnd (pchk 7 0) fun _ =>
    pbnd (p_X6_node x1 (v23 - (1 : Int32))) fun v130 =>
    pbnd (pld 9 9 v130) fun v133 =>
    (if v133 = x2 then
    p_X6_stop_b138
    else
    p_X6_stop_b140 x1 x2 x3 v23)))
    else
    p_X6_stop_b97))))
    else
    p_X6_stop_b97))) FU (0 : Int32) (0 : Int32))
set_option maxRecDepth 20000 in
theorem Lf_f_X6_stop {y : LY} {t0 mi : Nat} (x1 : Int32) (x2 : Int32) (x3 : Int32) : Lft y Eq (f_X6_stop t0 mi (adO y 7 0) x1 x2 x3) (p_X6_stop x1 x2 x3) := by
  unfold f_X6_stop p_X6_stop
  refine Lft_bnd (Lft_pI ⟨by decide, by decide⟩ (fun F => ⟨by simp [fds, u3], by simp [fds]⟩)) (fun _ _ _ => ?_)
  refine Lft_bnd (Lft_vc (Lf_f_X6_isTrain x1)) (fun v7 z9 e9 => ?_)
  subst e9
  refine Lft_if (fun _ => ?_) (fun _ => ?_)
  · refine Lft_bnd (Lft_vc (Lf_f_X6_fail)) (fun v14 z9 e9 => ?_)
    subst e9
    exact Lft_rt rfl
  · refine Lft_bnd (Lft_gA (a := (adA y 9 8)) (fun F => rfl)) (fun v19 _ e9 => ?_)
    subst e9
    refine Lft_bnd (Lft_ld rfl) (fun v23 z9 e9 => ?_)
    subst e9
    refine Lf_X6_stop_L32 x1 x2 x3 v23 _ _ (fun y1_5 => ?_) FU (0 : Int32) (0 : Int32)
    refine Lft_if (fun _ => ?_) (fun _ => ?_)
    · exact Lf_X6_stop_b97
    · refine Lft_if (fun _ => ?_) (fun _ => ?_)
      · refine Lft_if (fun _ => ?_) (fun _ => ?_)
        · exact Lf_X6_stop_b97
        · refine Lft_bnd (Lft_gI (fun F => rfl)) (fun v80 z9 e9 => ?_)
          subst e9
          refine Lft_if (fun _ => ?_) (fun _ => ?_)
          · exact Lf_X6_stop_b97
          · refine Lft_if (fun _ => ?_) (fun _ => ?_)
            · exact Lf_X6_stop_b97
            · refine Lft_if (fun _ => ?_) (fun _ => ?_)
              · refine Lft_if (fun _ => ?_) (fun _ => ?_)
                · exact Lf_X6_stop_b140 x1 x2 x3 v23
                · refine Lft_bnd (Lft_gA (a := (adA y 9 10)) (fun F => rfl)) (fun v105 _ e9 => ?_)
                  subst e9
                  refine Lft_bnd (Lf_f_X6_node x1 (v23 - (1 : Int32))) (fun v113 z9 e9 => ?_)
                  subst e9
                  refine Lft_bnd (Lft_ld rfl) (fun v116 z9 e9 => ?_)
                  subst e9
                  refine Lft_if (fun _ => ?_) (fun _ => ?_)
                  · exact Lf_X6_stop_b138
                  · refine Lft_bnd (Lft_gA (a := (adA y 9 9)) (fun F => rfl)) (fun v122 _ e9 => ?_)
                    subst e9
                    refine Lft_bnd (Lf_f_X6_node x1 (v23 - (1 : Int32))) (fun v130 z9 e9 => ?_)
                    subst e9
                    refine Lft_bnd (Lft_ld rfl) (fun v133 z9 e9 => ?_)
                    subst e9
                    refine Lft_if (fun _ => ?_) (fun _ => ?_)
                    · exact Lf_X6_stop_b138
                    · exact Lf_X6_stop_b140 x1 x2 x3 v23
              · exact Lf_X6_stop_b97
      · exact Lf_X6_stop_b97
def p_X6_thrown : PM Int32 :=
    pbnd (pgI 7 0 0) fun v1 =>
    prt v1
set_option maxRecDepth 20000 in
theorem Lf_f_X6_thrown {y : LY} {t0 mi : Nat} : Lft y Eq (f_X6_thrown t0 mi (adO y 7 0)) (p_X6_thrown) := by
  unfold f_X6_thrown p_X6_thrown
  refine Lft_bnd (Lft_gI (fun F => rfl)) (fun v1 z9 e9 => ?_)
  subst e9
  exact Lft_rt rfl
def p_X6_box_b98 : PM Int32 :=
    prt (-1 : Int32)
set_option maxRecDepth 20000 in
theorem Lf_X6_box_b98 {y : LY} {t0 mi : Nat} : Lft y Eq (X6_box_b98 t0 mi) (p_X6_box_b98) := by
  unfold X6_box_b98 p_X6_box_b98
  exact Lft_rt rfl
def p_X6_box_b58 (x1 : Int32) (x2 : Int32) (x3 : Int32) (x4 : Int32) (x5 : Int32) (x6 : Int32) (s0 : Int32) : PM Int32 :=
    pbnd (pgI 7 0 4) fun v61 =>
    (if v61 = (60 : Int32) then
    p_X6_box_b98
    else
    (if s0 = 0 then
    p_X6_box_b98
    else
    (if x3 < 0 then
    p_X6_box_b98
    else
    (if (1439 : Int32) < x3 then
    p_X6_box_b98
    else
    (if x6 < 0 then
    p_X6_box_b98
    else
    (if x6 ≤ (1439 : Int32) then
    pbnd (pchk 7 0) fun _ =>
    pbnd (pgI 7 0 4) fun v105 =>
    pbnd (pst 9 14 v105 x1) fun _ =>
    pbnd (pchk 7 0) fun _ =>
    pbnd (pgI 7 0 4) fun v115 =>
    pbnd (pst 9 15 v115 x2) fun _ =>
    pbnd (pchk 7 0) fun _ =>
    pbnd (pgI 7 0 4) fun v125 =>
    pbnd (pst 9 16 v125 x3) fun _ =>
    pbnd (pchk 7 0) fun _ =>
    pbnd (pgI 7 0 4) fun v135 =>
    pbnd (pst 9 17 v135 x4) fun _ =>
    pbnd (pchk 7 0) fun _ =>
    pbnd (pgI 7 0 4) fun v146 =>
    pbnd (pst 9 18 v146 x5) fun _ =>
    pbnd (pchk 7 0) fun _ =>
    pbnd (pgI 7 0 4) fun v157 =>
    pbnd (pst 9 19 v157 x6) fun _ =>
    pbnd (pchk 7 0) fun _ =>
    pbnd (pgI 7 0 4) fun v169 =>
    pbnd (pst 9 25 ((2 : Int32) * v169) (-1 : Int32)) fun _ =>
    pbnd (pchk 7 0) fun _ =>
    pbnd (pgI 7 0 4) fun v181 =>
    pbnd (pst 9 25 (((2 : Int32) * v181) + (1 : Int32)) (-1 : Int32)) fun _ =>
    pbnd (pgI 7 0 4) fun v191 =>
    pbnd (ppI 7 0 4 (v191 + (1 : Int32))) fun _ =>
    pbnd (pgI 7 0 4) fun v200 =>
    prt (v200 - (1 : Int32))
    else
    p_X6_box_b98))))))
set_option maxRecDepth 20000 in
theorem Lf_X6_box_b58 {y : LY} {t0 mi : Nat} (x1 : Int32) (x2 : Int32) (x3 : Int32) (x4 : Int32) (x5 : Int32) (x6 : Int32) (s0 : Int32) : Lft y Eq (X6_box_b58 t0 mi (adO y 7 0) x1 x2 x3 x4 x5 x6 s0) (p_X6_box_b58 x1 x2 x3 x4 x5 x6 s0) := by
  unfold X6_box_b58 p_X6_box_b58
  refine Lft_bnd (Lft_gI (fun F => rfl)) (fun v61 z9 e9 => ?_)
  subst e9
  refine Lft_if (fun _ => ?_) (fun _ => ?_)
  · exact Lf_X6_box_b98
  · refine Lft_if (fun _ => ?_) (fun _ => ?_)
    · exact Lf_X6_box_b98
    · refine Lft_if (fun _ => ?_) (fun _ => ?_)
      · exact Lf_X6_box_b98
      · refine Lft_if (fun _ => ?_) (fun _ => ?_)
        · exact Lf_X6_box_b98
        · refine Lft_if (fun _ => ?_) (fun _ => ?_)
          · exact Lf_X6_box_b98
          · refine Lft_if (fun _ => ?_) (fun _ => ?_)
            · refine Lft_bnd (Lft_gA (a := (adA y 9 14)) (fun F => rfl)) (fun v101 _ e9 => ?_)
              subst e9
              refine Lft_bnd (Lft_gI (fun F => rfl)) (fun v105 z9 e9 => ?_)
              subst e9
              refine Lft_bnd (Lft_st rfl) (fun _ _ _ => ?_)
              refine Lft_bnd (Lft_gA (a := (adA y 9 15)) (fun F => rfl)) (fun v111 _ e9 => ?_)
              subst e9
              refine Lft_bnd (Lft_gI (fun F => rfl)) (fun v115 z9 e9 => ?_)
              subst e9
              refine Lft_bnd (Lft_st rfl) (fun _ _ _ => ?_)
              refine Lft_bnd (Lft_gA (a := (adA y 9 16)) (fun F => rfl)) (fun v121 _ e9 => ?_)
              subst e9
              refine Lft_bnd (Lft_gI (fun F => rfl)) (fun v125 z9 e9 => ?_)
              subst e9
              refine Lft_bnd (Lft_st rfl) (fun _ _ _ => ?_)
              refine Lft_bnd (Lft_gA (a := (adA y 9 17)) (fun F => rfl)) (fun v131 _ e9 => ?_)
              subst e9
              refine Lft_bnd (Lft_gI (fun F => rfl)) (fun v135 z9 e9 => ?_)
              subst e9
              refine Lft_bnd (Lft_st rfl) (fun _ _ _ => ?_)
              refine Lft_bnd (Lft_gA (a := (adA y 9 18)) (fun F => rfl)) (fun v142 _ e9 => ?_)
              subst e9
              refine Lft_bnd (Lft_gI (fun F => rfl)) (fun v146 z9 e9 => ?_)
              subst e9
              refine Lft_bnd (Lft_st rfl) (fun _ _ _ => ?_)
              refine Lft_bnd (Lft_gA (a := (adA y 9 19)) (fun F => rfl)) (fun v153 _ e9 => ?_)
              subst e9
              refine Lft_bnd (Lft_gI (fun F => rfl)) (fun v157 z9 e9 => ?_)
              subst e9
              refine Lft_bnd (Lft_st rfl) (fun _ _ _ => ?_)
              refine Lft_bnd (Lft_gA (a := (adA y 9 25)) (fun F => rfl)) (fun v164 _ e9 => ?_)
              subst e9
              refine Lft_bnd (Lft_gI (fun F => rfl)) (fun v169 z9 e9 => ?_)
              subst e9
              refine Lft_bnd (Lft_st rfl) (fun _ _ _ => ?_)
              refine Lft_bnd (Lft_gA (a := (adA y 9 25)) (fun F => rfl)) (fun v176 _ e9 => ?_)
              subst e9
              refine Lft_bnd (Lft_gI (fun F => rfl)) (fun v181 z9 e9 => ?_)
              subst e9
              refine Lft_bnd (Lft_st rfl) (fun _ _ _ => ?_)
              refine Lft_bnd (Lft_gI (fun F => rfl)) (fun v191 z9 e9 => ?_)
              subst e9
              refine Lft_bnd (Lft_pI ⟨by decide, by decide⟩ (fun F => ⟨by simp [fds, u3], by simp [fds]⟩)) (fun _ _ _ => ?_)
              refine Lft_bnd (Lft_gI (fun F => rfl)) (fun v200 z9 e9 => ?_)
              subst e9
              exact Lft_rt rfl
            · exact Lf_X6_box_b98
def p_X6_box_b57 (x1 : Int32) (x2 : Int32) (x3 : Int32) (x4 : Int32) (x5 : Int32) (x6 : Int32) : PM Int32 :=
    p_X6_box_b58 x1 x2 x3 x4 x5 x6 (0 : Int32)
set_option maxRecDepth 20000 in
theorem Lf_X6_box_b57 {y : LY} {t0 mi : Nat} (x1 : Int32) (x2 : Int32) (x3 : Int32) (x4 : Int32) (x5 : Int32) (x6 : Int32) : Lft y Eq (X6_box_b57 t0 mi (adO y 7 0) x1 x2 x3 x4 x5 x6) (p_X6_box_b57 x1 x2 x3 x4 x5 x6) := by
  unfold X6_box_b57 p_X6_box_b57
  exact Lf_X6_box_b58 x1 x2 x3 x4 x5 x6 (0 : Int32)
def p_X6_box (x1 : Int32) (x2 : Int32) (x3 : Int32) (x4 : Int32) (x5 : Int32) (x6 : Int32) : PM Int32 :=
    pbnd (ppI 7 0 0 (0 : Int32)) fun _ =>
    (if x1 < 0 then
    p_X6_box_b57 x1 x2 x3 x4 x5 x6
    else
    pbnd (pgI 7 0 2) fun v11 =>
    (if v11 ≤ x1 then
    p_X6_box_b57 x1 x2 x3 x4 x5 x6
    else
    (if x4 < 0 then
    p_X6_box_b57 x1 x2 x3 x4 x5 x6
    else
    pbnd (pgI 7 0 2) fun v25 =>
    (if v25 ≤ x4 then
    p_X6_box_b57 x1 x2 x3 x4 x5 x6
    else
    (if x2 < 0 then
    p_X6_box_b57 x1 x2 x3 x4 x5 x6
    else
    (if (120 : Int32) < x2 then
    p_X6_box_b57 x1 x2 x3 x4 x5 x6
    else
    (if x5 < 0 then
    p_X6_box_b57 x1 x2 x3 x4 x5 x6
    else
    (if (120 : Int32) < x5 then
    p_X6_box_b57 x1 x2 x3 x4 x5 x6
    else
    p_X6_box_b58 x1 x2 x3 x4 x5 x6 (1 : Int32)))))))))
set_option maxRecDepth 20000 in
theorem Lf_f_X6_box {y : LY} {t0 mi : Nat} (x1 : Int32) (x2 : Int32) (x3 : Int32) (x4 : Int32) (x5 : Int32) (x6 : Int32) : Lft y Eq (f_X6_box t0 mi (adO y 7 0) x1 x2 x3 x4 x5 x6) (p_X6_box x1 x2 x3 x4 x5 x6) := by
  unfold f_X6_box p_X6_box
  refine Lft_bnd (Lft_pI ⟨by decide, by decide⟩ (fun F => ⟨by simp [fds, u3], by simp [fds]⟩)) (fun _ _ _ => ?_)
  refine Lft_if (fun _ => ?_) (fun _ => ?_)
  · exact Lf_X6_box_b57 x1 x2 x3 x4 x5 x6
  · refine Lft_bnd (Lft_gI (fun F => rfl)) (fun v11 z9 e9 => ?_)
    subst e9
    refine Lft_if (fun _ => ?_) (fun _ => ?_)
    · exact Lf_X6_box_b57 x1 x2 x3 x4 x5 x6
    · refine Lft_if (fun _ => ?_) (fun _ => ?_)
      · exact Lf_X6_box_b57 x1 x2 x3 x4 x5 x6
      · refine Lft_bnd (Lft_gI (fun F => rfl)) (fun v25 z9 e9 => ?_)
        subst e9
        refine Lft_if (fun _ => ?_) (fun _ => ?_)
        · exact Lf_X6_box_b57 x1 x2 x3 x4 x5 x6
        · refine Lft_if (fun _ => ?_) (fun _ => ?_)
          · exact Lf_X6_box_b57 x1 x2 x3 x4 x5 x6
          · refine Lft_if (fun _ => ?_) (fun _ => ?_)
            · exact Lf_X6_box_b57 x1 x2 x3 x4 x5 x6
            · refine Lft_if (fun _ => ?_) (fun _ => ?_)
              · exact Lf_X6_box_b57 x1 x2 x3 x4 x5 x6
              · refine Lft_if (fun _ => ?_) (fun _ => ?_)
                · exact Lf_X6_box_b57 x1 x2 x3 x4 x5 x6
                · exact Lf_X6_box_b58 x1 x2 x3 x4 x5 x6 (1 : Int32)
def p_X0_current_b18 (s0 : Nat) : PM Nat :=
    prt s0
set_option maxRecDepth 20000 in
theorem Lf_X0_current_b18 {y : LY} {t0 mi : Nat} (s0 : Nat) : Lft y (fun x z => x = adO y 5 z) (X0_current_b18 t0 mi (adO y 5 s0)) (p_X0_current_b18 s0) := by
  unfold X0_current_b18 p_X0_current_b18
  exact Lft_rt rfl
def p_X0_current (x0 : Nat) : PM Nat :=
    pbnd (pgO x0) fun v1 =>
    (if v1 = none then
    pbnd (pchk 1 x0) fun _ =>
    p_X0_current_b18 (2 * x0)
    else
    pbnd (pgB x0) fun _ =>
    p_X0_current_b18 (2 * x0 + 1))
set_option maxRecDepth 20000 in
theorem Lf_f_X0_current {y : LY} {t0 mi : Nat} (x0 : Nat) : Lft y (fun x z => x = adO y 5 z) (f_X0_current t0 mi (adO y 1 x0)) (p_X0_current x0) := by
  unfold f_X0_current p_X0_current
  refine Lft_bnd (Lft_gO) (fun x9 v1 e9 => ?_)
  subst e9
  refine Lft_ifn (fun _ => ?_) (fun _ => ?_)
  · refine Lft_bnd (Lft_gA (a := (adO y 5 (2 * x0))) (fun F => rfl)) (fun v8 _ e9 => ?_)
    subst e9
    exact Lf_X0_current_b18 (2 * x0)
  · refine Lft_bnd (Lft_gB) (fun v15 _ e9 => ?_)
    subst e9
    exact Lf_X0_current_b18 (2 * x0 + 1)
def p_X4_stands_b13 (s0 : Int32) : PM Int32 :=
    prtZ s0
set_option maxRecDepth 20000 in
theorem Lf_X4_stands_b13 {y : LY} {t0 mi : Nat} (s0 : Int32) : Lft y Eq (X4_stands_b13 t0 mi s0) (p_X4_stands_b13 s0) := by
  unfold X4_stands_b13 p_X4_stands_b13
  exact Lft_rtZ
def p_X4_stands (x0 : Nat) : PM Int32 :=
    pbnd (pgI 5 x0 10) fun v1 =>
    (if v1 = (-1 : Int32) then
    p_X4_stands_b13 (0 : Int32)
    else
    p_X4_stands_b13 (1 : Int32))
set_option maxRecDepth 20000 in
theorem Lf_f_X4_stands {y : LY} {t0 mi : Nat} (x0 : Nat) : Lft y Eq (f_X4_stands t0 mi (adO y 5 x0)) (p_X4_stands x0) := by
  unfold f_X4_stands p_X4_stands
  refine Lft_bnd (Lft_gI (fun F => rfl)) (fun v1 z9 e9 => ?_)
  subst e9
  refine Lft_if (fun _ => ?_) (fun _ => ?_)
  · exact Lf_X4_stands_b13 (0 : Int32)
  · exact Lf_X4_stands_b13 (1 : Int32)
def p_X2_sortedAt (x1 : Nat) (x2 : Int32) : PM Int32 :=
    pbnd (pchk 4 x1) fun _ =>
    pbnd (pld 6 x1 x2) fun v5 =>
    pbnd (pchk 3 0) fun _ =>
    pbnd (pchk 4 x1) fun _ =>
    pbnd (pld 5 x1 x2) fun v15 =>
    pbnd (pld 0 0 v15) fun v16 =>
    prt (v5 + v16)
set_option maxRecDepth 20000 in
theorem Lf_f_X2_sortedAt {y : LY} {t0 mi : Nat} (x1 : Nat) (x2 : Int32) : Lft y Eq (f_X2_sortedAt t0 mi (adO y 3 0) (adO y 4 x1) x2) (p_X2_sortedAt x1 x2) := by
  unfold f_X2_sortedAt p_X2_sortedAt
  refine Lft_bnd (Lft_gA (a := (adA y 6 x1)) (fun F => rfl)) (fun v1 _ e9 => ?_)
  subst e9
  refine Lft_bnd (Lft_ld rfl) (fun v5 z9 e9 => ?_)
  subst e9
  refine Lft_bnd (Lft_gA (a := (adA y 0 0)) (fun F => rfl)) (fun v7 _ e9 => ?_)
  subst e9
  refine Lft_bnd (Lft_gA (a := (adA y 5 x1)) (fun F => rfl)) (fun v11 _ e9 => ?_)
  subst e9
  refine Lft_bnd (Lft_ld rfl) (fun v15 z9 e9 => ?_)
  subst e9
  refine Lft_bnd (Lft_ld rfl) (fun v16 z9 e9 => ?_)
  subst e9
  exact Lft_rt rfl
def p_X3_isFull_b18 (s0 : Int32) : PM Int32 :=
    prtZ s0
set_option maxRecDepth 20000 in
theorem Lf_X3_isFull_b18 {y : LY} {t0 mi : Nat} (s0 : Int32) : Lft y Eq (X3_isFull_b18 t0 mi s0) (p_X3_isFull_b18 s0) := by
  unfold X3_isFull_b18 p_X3_isFull_b18
  exact Lft_rtZ
def p_X3_isFull (x0 : Nat) (x1 : Int32) : PM Int32 :=
    pbnd (pchk 4 x0) fun _ =>
    pbnd (pld 7 x0 x1) fun v5 =>
    pbnd (pgI 4 x0 0) fun v7 =>
    (if v5 < v7 then
    p_X3_isFull_b18 (0 : Int32)
    else
    p_X3_isFull_b18 (1 : Int32))
set_option maxRecDepth 20000 in
theorem Lf_f_X3_isFull {y : LY} {t0 mi : Nat} (x0 : Nat) (x1 : Int32) : Lft y Eq (f_X3_isFull t0 mi (adO y 4 x0) x1) (p_X3_isFull x0 x1) := by
  unfold f_X3_isFull p_X3_isFull
  refine Lft_bnd (Lft_gA (a := (adA y 7 x0)) (fun F => rfl)) (fun v1 _ e9 => ?_)
  subst e9
  refine Lft_bnd (Lft_ld rfl) (fun v5 z9 e9 => ?_)
  subst e9
  refine Lft_bnd (Lft_gI (fun F => rfl)) (fun v7 z9 e9 => ?_)
  subst e9
  refine Lft_if (fun _ => ?_) (fun _ => ?_)
  · exact Lf_X3_isFull_b18 (0 : Int32)
  · exact Lf_X3_isFull_b18 (1 : Int32)
def p_X2_ride_b92 (kh6 : Int32 → Int32 → PM Unit) (x1 : Nat) (x2 : Nat) (x3 : Nat) (x5 : Int32) (s0 : Int32) : PM Unit :=
    kh6 s0 (x5 + 1)
set_option maxRecDepth 20000 in
theorem Lf_X2_ride_b92 {y : LY} {t0 mi : Nat} (x1 : Nat) (x2 : Nat) (x3 : Nat) (x5 : Int32) (s0 : Int32) (kh6 : Int32 → Int32 → Mo Unit) (pkh6 : Int32 → Int32 → PM Unit) (hkh6 : ∀ (z0 : Int32) (z1 : Int32), Lft y (fun (_ : Unit) (_ : Unit) => True) (kh6 z0 z1) (pkh6 z0 z1)) : Lft y (fun (_ : Unit) (_ : Unit) => True) (X2_ride_b92 t0 mi kh6 (adO y 3 0) (adO y 4 x1) (adA y 3 x2) (adA y 3 x3) x5 s0) (p_X2_ride_b92 pkh6 x1 x2 x3 x5 s0) := by
  unfold X2_ride_b92 p_X2_ride_b92
  exact hkh6 s0 (x5 + 1)
def p_X2_ride_b91 (kh6 : Int32 → Int32 → PM Unit) (x1 : Nat) (x2 : Nat) (x3 : Nat) (x5 : Int32) : PM Unit :=
    p_X2_ride_b92 kh6 x1 x2 x3 x5 (0 : Int32)
set_option maxRecDepth 20000 in
theorem Lf_X2_ride_b91 {y : LY} {t0 mi : Nat} (x1 : Nat) (x2 : Nat) (x3 : Nat) (x5 : Int32) (kh6 : Int32 → Int32 → Mo Unit) (pkh6 : Int32 → Int32 → PM Unit) (hkh6 : ∀ (z0 : Int32) (z1 : Int32), Lft y (fun (_ : Unit) (_ : Unit) => True) (kh6 z0 z1) (pkh6 z0 z1)) : Lft y (fun (_ : Unit) (_ : Unit) => True) (X2_ride_b91 t0 mi kh6 (adO y 3 0) (adO y 4 x1) (adA y 3 x2) (adA y 3 x3) x5) (p_X2_ride_b91 pkh6 x1 x2 x3 x5) := by
  unfold X2_ride_b91 p_X2_ride_b91
  exact Lf_X2_ride_b92 x1 x2 x3 x5 (0 : Int32) _ _ hkh6
def p_X2_ride_b78 (kh6 : Int32 → Int32 → PM Unit) (x1 : Nat) (x2 : Nat) (x3 : Nat) (x5 : Int32) : PM Unit :=
    pbnd (pbnd (pchk 4 x1) fun _ => p_X3_isFull x1 x5) fun v81 =>
    (if v81 = 0 then
    p_X2_ride_b92 kh6 x1 x2 x3 x5 (1 : Int32)
    else
    p_X2_ride_b91 kh6 x1 x2 x3 x5)
set_option maxRecDepth 20000 in
theorem Lf_X2_ride_b78 {y : LY} {t0 mi : Nat} (x1 : Nat) (x2 : Nat) (x3 : Nat) (x5 : Int32) (kh6 : Int32 → Int32 → Mo Unit) (pkh6 : Int32 → Int32 → PM Unit) (hkh6 : ∀ (z0 : Int32) (z1 : Int32), Lft y (fun (_ : Unit) (_ : Unit) => True) (kh6 z0 z1) (pkh6 z0 z1)) : Lft y (fun (_ : Unit) (_ : Unit) => True) (X2_ride_b78 t0 mi kh6 (adO y 3 0) (adO y 4 x1) (adA y 3 x2) (adA y 3 x3) x5) (p_X2_ride_b78 pkh6 x1 x2 x3 x5) := by
  unfold X2_ride_b78 p_X2_ride_b78
  refine Lft_bnd (Lft_vc (Lf_f_X3_isFull x1 x5)) (fun v81 z9 e9 => ?_)
  subst e9
  refine Lft_if (fun _ => ?_) (fun _ => ?_)
  · exact Lf_X2_ride_b92 x1 x2 x3 x5 (1 : Int32) _ _ hkh6
  · exact Lf_X2_ride_b91 x1 x2 x3 x5 _ _ hkh6
def p_X2_ride_b66 (kh6 : Int32 → Int32 → PM Unit) (x1 : Nat) (x2 : Nat) (x3 : Nat) (x4 : Int32) (x5 : Int32) (s0 : Int32) : PM Unit :=
    (if x4 = 0 then
    (if s0 = 0 then
    p_X2_ride_b91 kh6 x1 x2 x3 x5
    else
    p_X2_ride_b78 kh6 x1 x2 x3 x5)
    else
    p_X2_ride_b78 kh6 x1 x2 x3 x5)
set_option maxRecDepth 20000 in
theorem Lf_X2_ride_b66 {y : LY} {t0 mi : Nat} (x1 : Nat) (x2 : Nat) (x3 : Nat) (x4 : Int32) (x5 : Int32) (s0 : Int32) (kh6 : Int32 → Int32 → Mo Unit) (pkh6 : Int32 → Int32 → PM Unit) (hkh6 : ∀ (z0 : Int32) (z1 : Int32), Lft y (fun (_ : Unit) (_ : Unit) => True) (kh6 z0 z1) (pkh6 z0 z1)) : Lft y (fun (_ : Unit) (_ : Unit) => True) (X2_ride_b66 t0 mi kh6 (adO y 3 0) (adO y 4 x1) (adA y 3 x2) (adA y 3 x3) x4 x5 s0) (p_X2_ride_b66 pkh6 x1 x2 x3 x4 x5 s0) := by
  unfold X2_ride_b66 p_X2_ride_b66
  refine Lft_if (fun _ => ?_) (fun _ => ?_)
  · refine Lft_if (fun _ => ?_) (fun _ => ?_)
    · exact Lf_X2_ride_b91 x1 x2 x3 x5 _ _ hkh6
    · exact Lf_X2_ride_b78 x1 x2 x3 x5 _ _ hkh6
  · exact Lf_X2_ride_b78 x1 x2 x3 x5 _ _ hkh6
def p_X2_ride_b47 (kh6 : Int32 → Int32 → PM Unit) (x1 : Nat) (x2 : Nat) (x3 : Nat) (x4 : Int32) (x5 : Int32) (x6 : Int32) : PM Unit :=
    pbnd (pld 3 x2 x6) fun v50 =>
    pbnd (pchk 4 x1) fun _ =>
    pbnd (pld 6 x1 x5) fun v57 =>
    (if v57 < v50 then
    p_X2_ride_b66 kh6 x1 x2 x3 x4 x5 (0 : Int32)
    else
    p_X2_ride_b66 kh6 x1 x2 x3 x4 x5 (1 : Int32))
set_option maxRecDepth 20000 in
theorem Lf_X2_ride_b47 {y : LY} {t0 mi : Nat} (x1 : Nat) (x2 : Nat) (x3 : Nat) (x4 : Int32) (x5 : Int32) (x6 : Int32) (kh6 : Int32 → Int32 → Mo Unit) (pkh6 : Int32 → Int32 → PM Unit) (hkh6 : ∀ (z0 : Int32) (z1 : Int32), Lft y (fun (_ : Unit) (_ : Unit) => True) (kh6 z0 z1) (pkh6 z0 z1)) : Lft y (fun (_ : Unit) (_ : Unit) => True) (X2_ride_b47 t0 mi kh6 (adO y 3 0) (adO y 4 x1) (adA y 3 x2) (adA y 3 x3) x4 x5 x6) (p_X2_ride_b47 pkh6 x1 x2 x3 x4 x5 x6) := by
  unfold X2_ride_b47 p_X2_ride_b47
  refine Lft_bnd (Lft_ld rfl) (fun v50 z9 e9 => ?_)
  subst e9
  refine Lft_bnd (Lft_gA (a := (adA y 6 x1)) (fun F => rfl)) (fun v52 _ e9 => ?_)
  subst e9
  refine Lft_bnd (Lft_ld rfl) (fun v57 z9 e9 => ?_)
  subst e9
  refine Lft_if (fun _ => ?_) (fun _ => ?_)
  · exact Lf_X2_ride_b66 x1 x2 x3 x4 x5 (0 : Int32) _ _ hkh6
  · exact Lf_X2_ride_b66 x1 x2 x3 x4 x5 (1 : Int32) _ _ hkh6
def p_X2_ride_L6 (x1 : Nat) (x2 : Nat) (x3 : Nat) (kx : PM Unit) : Nat → Int32 → Int32 → PM Unit
  | 0, _, _ => pflr
  | n + 1, x4, x5 =>
    pbnd (pgI 4 x1 4) fun v9 =>
    (if v9 ≤ x5 then
    kx
    else
    pbnd (pchk 4 x1) fun _ =>
    pbnd (pld 5 x1 x5) fun v21 =>
    (if x4 = 0 then
    p_X2_ride_b47 (p_X2_ride_L6 x1 x2 x3 kx n) x1 x2 x3 x4 x5 v21
    else
    pbnd (pld 3 x3 v21) fun v35 =>
    pbnd (pbnd (pchk 3 0) fun _ => p_X2_sortedAt x1 x5) fun v40 =>
    pbnd (pst 3 x3 v21 (mn v35 v40)) fun _ =>
    p_X2_ride_b47 (p_X2_ride_L6 x1 x2 x3 kx n) x1 x2 x3 x4 x5 v21))
set_option maxRecDepth 20000 in
theorem Lf_X2_ride_L6 {y : LY} {t0 mi : Nat} (x1 : Nat) (x2 : Nat) (x3 : Nat) (kx : Mo Unit) (pkx : PM Unit) (hkx : Lft y (fun (_ : Unit) (_ : Unit) => True) kx pkx) : ∀ (n : Nat) (x4 : Int32) (x5 : Int32), Lft y (fun (_ : Unit) (_ : Unit) => True) (X2_ride_L6 t0 mi (adO y 3 0) (adO y 4 x1) (adA y 3 x2) (adA y 3 x3) kx n x4 x5) (p_X2_ride_L6 x1 x2 x3 pkx n x4 x5) := by
  intro n
  induction n with
  | zero => intro x4 x5; rw [p_X2_ride_L6]; exact Lft_flr
  | succ n ih =>
    intro x4 x5; rw [X2_ride_L6, p_X2_ride_L6]
    refine Lft_bnd (Lft_gI (fun F => rfl)) (fun v9 z9 e9 => ?_)
    subst e9
    refine Lft_if (fun _ => ?_) (fun _ => ?_)
    · exact hkx
    · refine Lft_bnd (Lft_gA (a := (adA y 5 x1)) (fun F => rfl)) (fun v16 _ e9 => ?_)
      subst e9
      refine Lft_bnd (Lft_ld rfl) (fun v21 z9 e9 => ?_)
      subst e9
      refine Lft_if (fun _ => ?_) (fun _ => ?_)
      · exact Lf_X2_ride_b47 x1 x2 x3 x4 x5 v21 _ _ ih
      · refine Lft_bnd (Lft_ld rfl) (fun v35 z9 e9 => ?_)
        subst e9
        refine Lft_bnd (Lft_vc (Lf_f_X2_sortedAt x1 x5)) (fun v40 z9 e9 => ?_)
        subst e9
        refine Lft_bnd (Lft_st rfl) (fun _ _ _ => ?_)
        exact Lf_X2_ride_b47 x1 x2 x3 x4 x5 v21 _ _ ih
def p_X2_ride (x1 : Nat) (x2 : Nat) (x3 : Nat) : PM Unit :=
    p_X2_ride_L6 x1 x2 x3 (prt ()) FU (0 : Int32) (0 : Int32)
set_option maxRecDepth 20000 in
theorem Lf_f_X2_ride {y : LY} {t0 mi : Nat} (x1 : Nat) (x2 : Nat) (x3 : Nat) : Lft y (fun (_ : Unit) (_ : Unit) => True) (f_X2_ride t0 mi (adO y 3 0) (adO y 4 x1) (adA y 3 x2) (adA y 3 x3)) (p_X2_ride x1 x2 x3) := by
  unfold f_X2_ride p_X2_ride
  refine Lf_X2_ride_L6 x1 x2 x3 _ _ ?_ FU (0 : Int32) (0 : Int32)
  exact Lft_rt trivial
def p_X2_findEarliest_b53 (kh8 : Int32 → PM Unit) (x1 : Nat) (x2 : Nat) (x3 : Int32) : PM Unit :=
    kh8 (x3 + 1)
set_option maxRecDepth 20000 in
theorem Lf_X2_findEarliest_b53 {y : LY} {t0 mi : Nat} (x1 : Nat) (x2 : Nat) (x3 : Int32) (kh8 : Int32 → Mo Unit) (pkh8 : Int32 → PM Unit) (hkh8 : ∀ (z0 : Int32), Lft y (fun (_ : Unit) (_ : Unit) => True) (kh8 z0) (pkh8 z0)) : Lft y (fun (_ : Unit) (_ : Unit) => True) (X2_findEarliest_b53 t0 mi kh8 (adO y 3 0) (adA y 3 x1) (adA y 3 x2) x3) (p_X2_findEarliest_b53 pkh8 x1 x2 x3) := by
  unfold X2_findEarliest_b53 p_X2_findEarliest_b53
  exact hkh8 (x3 + 1)
def p_X2_findEarliest_L8 (x1 : Nat) (x2 : Nat) (kx : PM Unit) : Nat → Int32 → PM Unit
  | 0, _ => pflr
  | n + 1, x3 =>
    pbnd (pchk 3 0) fun _ =>
    pbnd (pbnd (pchk 0 0) fun _ => psiz 0) fun v13 =>
    (if v13 ≤ x3 then
    kx
    else
    pbnd (pchk 3 0) fun _ =>
    pbnd (pbnd (pchk 0 0) fun _ => pget 0 x3) fun _ =>
    pbnd (pchk 4 x3.toNatClampNeg) fun _ =>
    pbnd (pgI 4 x3.toNatClampNeg 5) fun v30 =>
    (if v30 = 0 then
    pbnd (pchk 3 0) fun _ =>
    pbnd (pbnd (pchk 0 0) fun _ => pget 0 x3) fun _ =>
    pbnd (pchk 4 x3.toNatClampNeg) fun _ =>
    pbnd (pbnd (pchk 3 0) fun _ => p_X2_ride x3.toNatClampNeg x1 x2) fun _ =>
    p_X2_findEarliest_b53 (p_X2_findEarliest_L8 x1 x2 kx n) x1 x2 x3
    else
    p_X2_findEarliest_b53 (p_X2_findEarliest_L8 x1 x2 kx n) x1 x2 x3))
set_option maxRecDepth 20000 in
theorem Lf_X2_findEarliest_L8 {y : LY} {t0 mi : Nat} (x1 : Nat) (x2 : Nat) (kx : Mo Unit) (pkx : PM Unit) (hkx : Lft y (fun (_ : Unit) (_ : Unit) => True) kx pkx) : ∀ (n : Nat) (x3 : Int32), Lft y (fun (_ : Unit) (_ : Unit) => True) (X2_findEarliest_L8 t0 mi (adO y 3 0) (adA y 3 x1) (adA y 3 x2) kx n x3) (p_X2_findEarliest_L8 x1 x2 pkx n x3) := by
  intro n
  induction n with
  | zero => intro x3; rw [p_X2_findEarliest_L8]; exact Lft_flr
  | succ n ih =>
    intro x3; rw [X2_findEarliest_L8, p_X2_findEarliest_L8]
    refine Lft_bnd (Lft_gA (a := (adO y 0 0)) (fun F => rfl)) (fun v10 _ e9 => ?_)
    subst e9
    refine Lft_bnd (Lft_vc (Lft_siz (by decide))) (fun v13 z9 e9 => ?_)
    subst e9
    refine Lft_if (fun _ => ?_) (fun _ => ?_)
    · exact hkx
    · refine Lft_bnd (Lft_gA (a := (adO y 0 0)) (fun F => rfl)) (fun v20 _ e9 => ?_)
      subst e9
      refine Lft_bnd (Lft_vc (Lft_get0)) (fun v24 _ e9 => ?_)
      subst e9
      refine Lft_bnd (Lft_isC) (fun _ _ _ => ?_)
      refine Lft_bnd (Lft_gI (fun F => rfl)) (fun v30 z9 e9 => ?_)
      subst e9
      refine Lft_if (fun _ => ?_) (fun _ => ?_)
      · refine Lft_bnd (Lft_gA (a := (adO y 0 0)) (fun F => rfl)) (fun v38 _ e9 => ?_)
        subst e9
        refine Lft_bnd (Lft_vc (Lft_get0)) (fun v42 _ e9 => ?_)
        subst e9
        refine Lft_bnd (Lft_isC) (fun _ _ _ => ?_)
        refine Lft_bnd (Lft_vc (Lf_f_X2_ride x3.toNatClampNeg x1 x2)) (fun _ _ _ => ?_)
        exact Lf_X2_findEarliest_b53 x1 x2 x3 _ _ ih
      · exact Lf_X2_findEarliest_b53 x1 x2 x3 _ _ ih
def p_X2_findEarliest (x1 : Nat) (x2 : Nat) : PM Unit :=
    pbnd (pfill 3 x2 (1000000 : Int32)) fun _ =>
    p_X2_findEarliest_L8 x1 x2 (prt ()) FU (0 : Int32)
set_option maxRecDepth 20000 in
theorem Lf_f_X2_findEarliest {y : LY} {t0 mi : Nat} (x1 : Nat) (x2 : Nat) : Lft y (fun (_ : Unit) (_ : Unit) => True) (f_X2_findEarliest t0 mi (adO y 3 0) (adA y 3 x1) (adA y 3 x2)) (p_X2_findEarliest x1 x2) := by
  unfold f_X2_findEarliest p_X2_findEarliest
  refine Lft_bnd (Lft_fill rfl) (fun _ _ _ => ?_)
  refine Lf_X2_findEarliest_L8 x1 x2 _ _ ?_ FU (0 : Int32)
  exact Lft_rt trivial
def p_X2_legsOfTheWay_b98 (kh35 : Int32 → Int32 → PM Int32) (x3 : Int32) (x4 : Int32) (x5 : Int32) (x6 : Int32) : PM Int32 :=
    kh35 x5 (x6 + 1)
set_option maxRecDepth 20000 in
theorem Lf_X2_legsOfTheWay_b98 {y : LY} {t0 mi : Nat} (x3 : Int32) (x4 : Int32) (x5 : Int32) (x6 : Int32) (kh35 : Int32 → Int32 → Mo Int32) (pkh35 : Int32 → Int32 → PM Int32) (hkh35 : ∀ (z0 : Int32) (z1 : Int32), Lft y Eq (kh35 z0 z1) (pkh35 z0 z1)) : Lft y Eq (X2_legsOfTheWay_b98 t0 mi kh35 (adO y 3 0) x3 x4 x5 x6) (p_X2_legsOfTheWay_b98 pkh35 x3 x4 x5 x6) := by
  unfold X2_legsOfTheWay_b98 p_X2_legsOfTheWay_b98
  exact hkh35 x5 (x6 + 1)
def p_X2_legsOfTheWay_b91 (kh35 : Int32 → Int32 → PM Int32) (x3 : Int32) (x4 : Int32) (x5 : Int32) (x6 : Int32) (s0 : Int32) (s1 : Int32) : PM Int32 :=
    (if s0 ≤ s1 then
    p_X2_legsOfTheWay_b98 kh35 x3 x4 x5 x6
    else
    p_X2_legsOfTheWay_b98 kh35 x3 x4 x6 x6)
set_option maxRecDepth 20000 in
theorem Lf_X2_legsOfTheWay_b91 {y : LY} {t0 mi : Nat} (x3 : Int32) (x4 : Int32) (x5 : Int32) (x6 : Int32) (s0 : Int32) (s1 : Int32) (kh35 : Int32 → Int32 → Mo Int32) (pkh35 : Int32 → Int32 → PM Int32) (hkh35 : ∀ (z0 : Int32) (z1 : Int32), Lft y Eq (kh35 z0 z1) (pkh35 z0 z1)) : Lft y Eq (X2_legsOfTheWay_b91 t0 mi kh35 (adO y 3 0) x3 x4 x5 x6 s0 s1) (p_X2_legsOfTheWay_b91 pkh35 x3 x4 x5 x6 s0 s1) := by
  unfold X2_legsOfTheWay_b91 p_X2_legsOfTheWay_b91
  refine Lft_if (fun _ => ?_) (fun _ => ?_)
  · exact Lf_X2_legsOfTheWay_b98 x3 x4 x5 x6 _ _ hkh35
  · exact Lf_X2_legsOfTheWay_b98 x3 x4 x6 x6 _ _ hkh35
def p_X2_legsOfTheWay_L35 (x3 : Int32) (x4 : Int32) (kx : Int32 → PM Int32) : Nat → Int32 → Int32 → PM Int32
  | 0, _, _ => pflr
  | n + 1, x5, x6 =>
    (if x4 < x6 then
    kx x5
    else
    pbnd (pchk 3 0) fun _ =>
    pbnd (prow 3 (x6 - (1 : Int32))) fun _ =>
    pbnd (pchk 3 0) fun _ =>
    pbnd (prow 3 x6) fun _ =>
    pbnd (pbnd (pchk 3 0) fun _ => p_X2_findEarliest ((x6 - (1 : Int32)).toNatClampNeg) x6.toNatClampNeg) fun _ =>
    pbnd (pchk 3 0) fun _ =>
    pbnd (prow 3 x6) fun _ =>
    pbnd (pld 3 x6.toNatClampNeg x3) fun v70 =>
    (if x5 = (-1 : Int32) then
    p_X2_legsOfTheWay_b91 (p_X2_legsOfTheWay_L35 x3 x4 kx n) x3 x4 x5 x6 (1000000 : Int32) v70
    else
    pbnd (pchk 3 0) fun _ =>
    pbnd (prow 3 x5) fun _ =>
    pbnd (pld 3 x5.toNatClampNeg x3) fun v90 =>
    p_X2_legsOfTheWay_b91 (p_X2_legsOfTheWay_L35 x3 x4 kx n) x3 x4 x5 x6 v90 v70))
set_option maxRecDepth 20000 in
theorem Lf_X2_legsOfTheWay_L35 {y : LY} {t0 mi : Nat} (x3 : Int32) (x4 : Int32) (kx : Int32 → Mo Int32) (pkx : Int32 → PM Int32) (hkx : ∀ (z0 : Int32), Lft y Eq (kx z0) (pkx z0)) : ∀ (n : Nat) (x5 : Int32) (x6 : Int32), Lft y Eq (X2_legsOfTheWay_L35 t0 mi (adO y 3 0) x3 x4 kx n x5 x6) (p_X2_legsOfTheWay_L35 x3 x4 pkx n x5 x6) := by
  intro n
  induction n with
  | zero => intro x5 x6; rw [p_X2_legsOfTheWay_L35]; exact Lft_flr
  | succ n ih =>
    intro x5 x6; rw [X2_legsOfTheWay_L35, p_X2_legsOfTheWay_L35]
    refine Lft_if (fun _ => ?_) (fun _ => ?_)
    · exact hkx x5
    · refine Lft_bnd (Lft_gA (a := (yB y + 4)) (fun F => rfl)) (fun v44 _ e9 => ?_)
      subst e9
      refine Lft_bnd (Lft_row3) (fun v51 _ e9 => ?_)
      subst e9
      refine Lft_bnd (Lft_gA (a := (yB y + 4)) (fun F => rfl)) (fun v53 _ e9 => ?_)
      subst e9
      refine Lft_bnd (Lft_row3) (fun v58 _ e9 => ?_)
      subst e9
      refine Lft_bnd (Lft_vc (Lf_f_X2_findEarliest ((x6 - (1 : Int32)).toNatClampNeg) x6.toNatClampNeg)) (fun _ _ _ => ?_)
      refine Lft_bnd (Lft_gA (a := (yB y + 4)) (fun F => rfl)) (fun v63 _ e9 => ?_)
      subst e9
      refine Lft_bnd (Lft_row3) (fun v68 _ e9 => ?_)
      subst e9
      refine Lft_bnd (Lft_ld rfl) (fun v70 z9 e9 => ?_)
      subst e9
      refine Lft_if (fun _ => ?_) (fun _ => ?_)
      · exact Lf_X2_legsOfTheWay_b91 x3 x4 x5 x6 (1000000 : Int32) v70 _ _ ih
      · refine Lft_bnd (Lft_gA (a := (yB y + 4)) (fun F => rfl)) (fun v83 _ e9 => ?_)
        subst e9
        refine Lft_bnd (Lft_row3) (fun v88 _ e9 => ?_)
        subst e9
        refine Lft_bnd (Lft_ld rfl) (fun v90 z9 e9 => ?_)
        subst e9
        exact Lf_X2_legsOfTheWay_b91 x3 x4 x5 x6 v90 v70 _ _ ih
def p_X2_legsOfTheWay_b30 (x3 : Int32) (x4 : Int32) (s0 : Int32) : PM Int32 :=
    p_X2_legsOfTheWay_L35 x3 x4 (fun y1_5 =>
    prt y1_5) FU s0 (1 : Int32)
set_option maxRecDepth 20000 in
theorem Lf_X2_legsOfTheWay_b30 {y : LY} {t0 mi : Nat} (x3 : Int32) (x4 : Int32) (s0 : Int32) : Lft y Eq (X2_legsOfTheWay_b30 t0 mi (adO y 3 0) x3 x4 s0) (p_X2_legsOfTheWay_b30 x3 x4 s0) := by
  unfold X2_legsOfTheWay_b30 p_X2_legsOfTheWay_b30
  refine Lf_X2_legsOfTheWay_L35 x3 x4 _ _ (fun y1_5 => ?_) FU s0 (1 : Int32)
  exact Lft_rt rfl
def p_X2_legsOfTheWay (x1 : Int32) (x2 : Int32) (x3 : Int32) (x4 : Int32) : PM Int32 :=
    pbnd (pchk 3 0) fun _ =>
    pbnd (prow 3 (0 : Int32)) fun _ =>
    pbnd (pfill 3 ((0 : Int32).toNatClampNeg) (1000000 : Int32)) fun _ =>
    pbnd (pchk 3 0) fun _ =>
    pbnd (prow 3 (0 : Int32)) fun _ =>
    pbnd (pst 3 ((0 : Int32).toNatClampNeg) x1 x2) fun _ =>
    (if x1 = x3 then
    p_X2_legsOfTheWay_b30 x3 x4 (0 : Int32)
    else
    p_X2_legsOfTheWay_b30 x3 x4 (-1 : Int32))
set_option maxRecDepth 20000 in
theorem Lf_f_X2_legsOfTheWay {y : LY} {t0 mi : Nat} (x1 : Int32) (x2 : Int32) (x3 : Int32) (x4 : Int32) : Lft y Eq (f_X2_legsOfTheWay t0 mi (adO y 3 0) x1 x2 x3 x4) (p_X2_legsOfTheWay x1 x2 x3 x4) := by
  unfold f_X2_legsOfTheWay p_X2_legsOfTheWay
  refine Lft_bnd (Lft_gA (a := (yB y + 4)) (fun F => rfl)) (fun v1 _ e9 => ?_)
  subst e9
  refine Lft_bnd (Lft_row3) (fun v5 _ e9 => ?_)
  subst e9
  refine Lft_bnd (Lft_fill rfl) (fun _ _ _ => ?_)
  refine Lft_bnd (Lft_gA (a := (yB y + 4)) (fun F => rfl)) (fun v12 _ e9 => ?_)
  subst e9
  refine Lft_bnd (Lft_row3) (fun v16 _ e9 => ?_)
  subst e9
  refine Lft_bnd (Lft_st rfl) (fun _ _ _ => ?_)
  refine Lft_if (fun _ => ?_) (fun _ => ?_)
  · exact Lf_X2_legsOfTheWay_b30 x3 x4 (0 : Int32)
  · exact Lf_X2_legsOfTheWay_b30 x3 x4 (-1 : Int32)
def p_X2_rideBackwards_b93 (kh11 : Int32 → Int32 → PM Unit) (x1 : Nat) (x2 : Nat) (x3 : Nat) (x5 : Int32) (s0 : Int32) : PM Unit :=
    kh11 s0 (x5 + (-1))
set_option maxRecDepth 20000 in
theorem Lf_X2_rideBackwards_b93 {y : LY} {t0 mi : Nat} (x1 : Nat) (x2 : Nat) (x3 : Nat) (x5 : Int32) (s0 : Int32) (kh11 : Int32 → Int32 → Mo Unit) (pkh11 : Int32 → Int32 → PM Unit) (hkh11 : ∀ (z0 : Int32) (z1 : Int32), Lft y (fun (_ : Unit) (_ : Unit) => True) (kh11 z0 z1) (pkh11 z0 z1)) : Lft y (fun (_ : Unit) (_ : Unit) => True) (X2_rideBackwards_b93 t0 mi kh11 (adO y 3 0) (adO y 4 x1) (adA y 4 x2) (adA y 4 x3) x5 s0) (p_X2_rideBackwards_b93 pkh11 x1 x2 x3 x5 s0) := by
  unfold X2_rideBackwards_b93 p_X2_rideBackwards_b93
  exact hkh11 s0 (x5 + (-1))
def p_X2_rideBackwards_b88 (kh11 : Int32 → Int32 → PM Unit) (x1 : Nat) (x2 : Nat) (x3 : Nat) (x5 : Int32) : PM Unit :=
    p_X2_rideBackwards_b93 kh11 x1 x2 x3 x5 (1 : Int32)
set_option maxRecDepth 20000 in
theorem Lf_X2_rideBackwards_b88 {y : LY} {t0 mi : Nat} (x1 : Nat) (x2 : Nat) (x3 : Nat) (x5 : Int32) (kh11 : Int32 → Int32 → Mo Unit) (pkh11 : Int32 → Int32 → PM Unit) (hkh11 : ∀ (z0 : Int32) (z1 : Int32), Lft y (fun (_ : Unit) (_ : Unit) => True) (kh11 z0 z1) (pkh11 z0 z1)) : Lft y (fun (_ : Unit) (_ : Unit) => True) (X2_rideBackwards_b88 t0 mi kh11 (adO y 3 0) (adO y 4 x1) (adA y 4 x2) (adA y 4 x3) x5) (p_X2_rideBackwards_b88 pkh11 x1 x2 x3 x5) := by
  unfold X2_rideBackwards_b88 p_X2_rideBackwards_b88
  exact Lf_X2_rideBackwards_b93 x1 x2 x3 x5 (1 : Int32) _ _ hkh11
def p_X2_rideBackwards_b69 (kh11 : Int32 → Int32 → PM Unit) (x1 : Nat) (x2 : Nat) (x3 : Nat) (x4 : Int32) (x5 : Int32) (x6 : Int32) : PM Unit :=
    (if x4 = 0 then
    pbnd (pbnd (pchk 3 0) fun _ => p_X2_sortedAt x1 x5) fun v78 =>
    pbnd (pld 4 x2 x6) fun v84 =>
    (if v84 < v78 then
    p_X2_rideBackwards_b93 kh11 x1 x2 x3 x5 (0 : Int32)
    else
    p_X2_rideBackwards_b88 kh11 x1 x2 x3 x5)
    else
    p_X2_rideBackwards_b88 kh11 x1 x2 x3 x5)
set_option maxRecDepth 20000 in
theorem Lf_X2_rideBackwards_b69 {y : LY} {t0 mi : Nat} (x1 : Nat) (x2 : Nat) (x3 : Nat) (x4 : Int32) (x5 : Int32) (x6 : Int32) (kh11 : Int32 → Int32 → Mo Unit) (pkh11 : Int32 → Int32 → PM Unit) (hkh11 : ∀ (z0 : Int32) (z1 : Int32), Lft y (fun (_ : Unit) (_ : Unit) => True) (kh11 z0 z1) (pkh11 z0 z1)) : Lft y (fun (_ : Unit) (_ : Unit) => True) (X2_rideBackwards_b69 t0 mi kh11 (adO y 3 0) (adO y 4 x1) (adA y 4 x2) (adA y 4 x3) x4 x5 x6) (p_X2_rideBackwards_b69 pkh11 x1 x2 x3 x4 x5 x6) := by
  unfold X2_rideBackwards_b69 p_X2_rideBackwards_b69
  refine Lft_if (fun _ => ?_) (fun _ => ?_)
  · refine Lft_bnd (Lft_vc (Lf_f_X2_sortedAt x1 x5)) (fun v78 z9 e9 => ?_)
    subst e9
    refine Lft_bnd (Lft_ld rfl) (fun v84 z9 e9 => ?_)
    subst e9
    refine Lft_if (fun _ => ?_) (fun _ => ?_)
    · exact Lf_X2_rideBackwards_b93 x1 x2 x3 x5 (0 : Int32) _ _ hkh11
    · exact Lf_X2_rideBackwards_b88 x1 x2 x3 x5 _ _ hkh11
  · exact Lf_X2_rideBackwards_b88 x1 x2 x3 x5 _ _ hkh11
def p_X2_rideBackwards_b44 (kh11 : Int32 → Int32 → PM Unit) (x1 : Nat) (x2 : Nat) (x3 : Nat) (x5 : Int32) (x6 : Int32) (s0 : Int32) : PM Unit :=
    (if s0 = 0 then
    p_X2_rideBackwards_b69 kh11 x1 x2 x3 s0 x5 x6
    else
    pbnd (pld 4 x3 x6) fun v57 =>
    pbnd (pchk 4 x1) fun _ =>
    pbnd (pld 6 x1 x5) fun v64 =>
    pbnd (pst 4 x3 x6 (mx v57 v64)) fun _ =>
    p_X2_rideBackwards_b69 kh11 x1 x2 x3 s0 x5 x6)
set_option maxRecDepth 20000 in
theorem Lf_X2_rideBackwards_b44 {y : LY} {t0 mi : Nat} (x1 : Nat) (x2 : Nat) (x3 : Nat) (x5 : Int32) (x6 : Int32) (s0 : Int32) (kh11 : Int32 → Int32 → Mo Unit) (pkh11 : Int32 → Int32 → PM Unit) (hkh11 : ∀ (z0 : Int32) (z1 : Int32), Lft y (fun (_ : Unit) (_ : Unit) => True) (kh11 z0 z1) (pkh11 z0 z1)) : Lft y (fun (_ : Unit) (_ : Unit) => True) (X2_rideBackwards_b44 t0 mi kh11 (adO y 3 0) (adO y 4 x1) (adA y 4 x2) (adA y 4 x3) x5 x6 s0) (p_X2_rideBackwards_b44 pkh11 x1 x2 x3 x5 x6 s0) := by
  unfold X2_rideBackwards_b44 p_X2_rideBackwards_b44
  refine Lft_if (fun _ => ?_) (fun _ => ?_)
  · exact Lf_X2_rideBackwards_b69 x1 x2 x3 s0 x5 x6 _ _ hkh11
  · refine Lft_bnd (Lft_ld rfl) (fun v57 z9 e9 => ?_)
    subst e9
    refine Lft_bnd (Lft_gA (a := (adA y 6 x1)) (fun F => rfl)) (fun v59 _ e9 => ?_)
    subst e9
    refine Lft_bnd (Lft_ld rfl) (fun v64 z9 e9 => ?_)
    subst e9
    refine Lft_bnd (Lft_st rfl) (fun _ _ _ => ?_)
    exact Lf_X2_rideBackwards_b69 x1 x2 x3 s0 x5 x6 _ _ hkh11
def p_X2_rideBackwards_b43 (kh11 : Int32 → Int32 → PM Unit) (x1 : Nat) (x2 : Nat) (x3 : Nat) (x5 : Int32) (x6 : Int32) : PM Unit :=
    p_X2_rideBackwards_b44 kh11 x1 x2 x3 x5 x6 (0 : Int32)
set_option maxRecDepth 20000 in
theorem Lf_X2_rideBackwards_b43 {y : LY} {t0 mi : Nat} (x1 : Nat) (x2 : Nat) (x3 : Nat) (x5 : Int32) (x6 : Int32) (kh11 : Int32 → Int32 → Mo Unit) (pkh11 : Int32 → Int32 → PM Unit) (hkh11 : ∀ (z0 : Int32) (z1 : Int32), Lft y (fun (_ : Unit) (_ : Unit) => True) (kh11 z0 z1) (pkh11 z0 z1)) : Lft y (fun (_ : Unit) (_ : Unit) => True) (X2_rideBackwards_b43 t0 mi kh11 (adO y 3 0) (adO y 4 x1) (adA y 4 x2) (adA y 4 x3) x5 x6) (p_X2_rideBackwards_b43 pkh11 x1 x2 x3 x5 x6) := by
  unfold X2_rideBackwards_b43 p_X2_rideBackwards_b43
  exact Lf_X2_rideBackwards_b44 x1 x2 x3 x5 x6 (0 : Int32) _ _ hkh11
def p_X2_rideBackwards_L11 (x1 : Nat) (x2 : Nat) (x3 : Nat) (kx : PM Unit) : Nat → Int32 → Int32 → PM Unit
  | 0, _, _ => pflr
  | n + 1, x4, x5 =>
    (if x5 < 0 then
    kx
    else
    pbnd (pchk 4 x1) fun _ =>
    pbnd (pld 5 x1 x5) fun v22 =>
    (if x4 = 0 then
    p_X2_rideBackwards_b43 (p_X2_rideBackwards_L11 x1 x2 x3 kx n) x1 x2 x3 x5 v22
    else
    pbnd (pbnd (pchk 4 x1) fun _ => p_X3_isFull x1 x5) fun v33 =>
    (if v33 = 0 then
    p_X2_rideBackwards_b44 (p_X2_rideBackwards_L11 x1 x2 x3 kx n) x1 x2 x3 x5 v22 (1 : Int32)
    else
    p_X2_rideBackwards_b43 (p_X2_rideBackwards_L11 x1 x2 x3 kx n) x1 x2 x3 x5 v22)))
set_option maxRecDepth 20000 in
theorem Lf_X2_rideBackwards_L11 {y : LY} {t0 mi : Nat} (x1 : Nat) (x2 : Nat) (x3 : Nat) (kx : Mo Unit) (pkx : PM Unit) (hkx : Lft y (fun (_ : Unit) (_ : Unit) => True) kx pkx) : ∀ (n : Nat) (x4 : Int32) (x5 : Int32), Lft y (fun (_ : Unit) (_ : Unit) => True) (X2_rideBackwards_L11 t0 mi (adO y 3 0) (adO y 4 x1) (adA y 4 x2) (adA y 4 x3) kx n x4 x5) (p_X2_rideBackwards_L11 x1 x2 x3 pkx n x4 x5) := by
  intro n
  induction n with
  | zero => intro x4 x5; rw [p_X2_rideBackwards_L11]; exact Lft_flr
  | succ n ih =>
    intro x4 x5; rw [X2_rideBackwards_L11, p_X2_rideBackwards_L11]
    refine Lft_if (fun _ => ?_) (fun _ => ?_)
    · exact hkx
    · refine Lft_bnd (Lft_gA (a := (adA y 5 x1)) (fun F => rfl)) (fun v17 _ e9 => ?_)
      subst e9
      refine Lft_bnd (Lft_ld rfl) (fun v22 z9 e9 => ?_)
      subst e9
      refine Lft_if (fun _ => ?_) (fun _ => ?_)
      · exact Lf_X2_rideBackwards_b43 x1 x2 x3 x5 v22 _ _ ih
      · refine Lft_bnd (Lft_vc (Lf_f_X3_isFull x1 x5)) (fun v33 z9 e9 => ?_)
        subst e9
        refine Lft_if (fun _ => ?_) (fun _ => ?_)
        · exact Lf_X2_rideBackwards_b44 x1 x2 x3 x5 v22 (1 : Int32) _ _ ih
        · exact Lf_X2_rideBackwards_b43 x1 x2 x3 x5 v22 _ _ ih
def p_X2_rideBackwards (x1 : Nat) (x2 : Nat) (x3 : Nat) : PM Unit :=
    pbnd (pgI 4 x1 4) fun v4 =>
    p_X2_rideBackwards_L11 x1 x2 x3 (prt ()) FU (0 : Int32) (v4 - (1 : Int32))
set_option maxRecDepth 20000 in
theorem Lf_f_X2_rideBackwards {y : LY} {t0 mi : Nat} (x1 : Nat) (x2 : Nat) (x3 : Nat) : Lft y (fun (_ : Unit) (_ : Unit) => True) (f_X2_rideBackwards t0 mi (adO y 3 0) (adO y 4 x1) (adA y 4 x2) (adA y 4 x3)) (p_X2_rideBackwards x1 x2 x3) := by
  unfold f_X2_rideBackwards p_X2_rideBackwards
  refine Lft_bnd (Lft_gI (fun F => rfl)) (fun v4 z9 e9 => ?_)
  subst e9
  refine Lf_X2_rideBackwards_L11 x1 x2 x3 _ _ ?_ FU (0 : Int32) (v4 - (1 : Int32))
  exact Lft_rt trivial
