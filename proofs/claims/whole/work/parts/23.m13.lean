/-! LunchMarksLaw.law([I)Z -/
abbrev M_L_law : MS := (yL_law, cL_law, 7, (some .boolean), [], 9, 214)
theorem pd_L_law : (parseMethodDescriptor (mY M_L_law).desc).map (fun d => d.parameters.length) = some 1 := by decide +kernel
def L_law_b1014 (t0 mi L : Nat) (xs : Nat → Int32) (kh23 : Int32 → Mo Int32) (x1 : Nat) (x2 : Nat) (x3 : Nat) (x4 : Int32) : Mo Int32 :=
    kh23 (x4 + 7)
set_option maxRecDepth 20000 in
theorem I_L_law_b1014 {l : Launch} {g : GX} (hst : l.stackTraces = false) (x1 : Nat) (x2 : Nat) (x3 : Nat) (x4 : Int32) (kh23 : Int32 → Mo Int32) (hkh23 : ∀ (z4 : Int32), I l g M_L_law cvI 23 [(0, .ref (gb g)), (1, .ref x1), (2, .ref x2), (3, .ref x3), (4, .int z4)] [] (kh23 z4)) : I l g M_L_law cvI 1014 [(0, .ref (gb g)), (1, .ref x1), (2, .ref x2), (3, .ref x3), (4, .int x4)] [] (L_law_b1014 (gt0 g) (gmi g) (gL g) (gxs g) kh23 x1 x2 x3 x4) := by
  unfold L_law_b1014
  refine I_iinc 1017 (x4 + 7) [(4, .int (x4 + 7)), (0, .ref (gb g)), (1, .ref x1), (2, .ref x2), (3, .ref x3)] 4 dL_law_1014 rfl rfl rfl (by decide) rfl ?_
  refine I_goto 23 dL_law_1017 rfl ?_
  refine I_sub [(0, .ref (gb g)), (1, .ref x1), (2, .ref x2), (3, .ref x3), (4, .int (x4 + 7))] [1, 2, 3, 4, 0] rfl ?_
  exact hkh23 (x4 + 7)
def L_law_b247 (t0 mi L : Nat) (xs : Nat → Int32) (kh23 : Int32 → Mo Int32) (x1 : Nat) (x2 : Nat) (x3 : Nat) (x4 : Int32) : Mo Int32 :=
    L_law_b1014 t0 mi L xs kh23 x1 x2 x3 x4
set_option maxRecDepth 20000 in
theorem I_L_law_b247 {l : Launch} {g : GX} (hst : l.stackTraces = false) (x1 : Nat) (x2 : Nat) (x3 : Nat) (x4 : Int32) (kh23 : Int32 → Mo Int32) (hkh23 : ∀ (z4 : Int32), I l g M_L_law cvI 23 [(0, .ref (gb g)), (1, .ref x1), (2, .ref x2), (3, .ref x3), (4, .int z4)] [] (kh23 z4)) : I l g M_L_law cvI 247 [(0, .ref (gb g)), (1, .ref x1), (2, .ref x2), (3, .ref x3), (4, .int x4)] [] (L_law_b247 (gt0 g) (gmi g) (gL g) (gxs g) kh23 x1 x2 x3 x4) := by
  unfold L_law_b247
  refine I_goto 1014 dL_law_247 rfl ?_
  refine I_sub [(0, .ref (gb g)), (1, .ref x1), (2, .ref x2), (3, .ref x3), (4, .int x4)] [0, 1, 2, 3, 4] rfl ?_
  exact I_L_law_b1014 hst x1 x2 x3 x4 _ hkh23
def L_law_b403 (t0 mi L : Nat) (xs : Nat → Int32) (kh23 : Int32 → Mo Int32) (x1 : Nat) (x2 : Nat) (x3 : Nat) (x4 : Int32) : Mo Int32 :=
    L_law_b1014 t0 mi L xs kh23 x1 x2 x3 x4
set_option maxRecDepth 20000 in
theorem I_L_law_b403 {l : Launch} {g : GX} (hst : l.stackTraces = false) (x1 : Nat) (x2 : Nat) (x3 : Nat) (x4 : Int32) (kh23 : Int32 → Mo Int32) (hkh23 : ∀ (z4 : Int32), I l g M_L_law cvI 23 [(0, .ref (gb g)), (1, .ref x1), (2, .ref x2), (3, .ref x3), (4, .int z4)] [] (kh23 z4)) : I l g M_L_law cvI 403 [(0, .ref (gb g)), (1, .ref x1), (2, .ref x2), (3, .ref x3), (4, .int x4)] [] (L_law_b403 (gt0 g) (gmi g) (gL g) (gxs g) kh23 x1 x2 x3 x4) := by
  unfold L_law_b403
  refine I_goto 1014 dL_law_403 rfl ?_
  refine I_sub [(0, .ref (gb g)), (1, .ref x1), (2, .ref x2), (3, .ref x3), (4, .int x4)] [0, 1, 2, 3, 4] rfl ?_
  exact I_L_law_b1014 hst x1 x2 x3 x4 _ hkh23
def L_law_b459 (t0 mi L : Nat) (xs : Nat → Int32) (kh23 : Int32 → Mo Int32) (x1 : Nat) (x2 : Nat) (x3 : Nat) (x4 : Int32) : Mo Int32 :=
    L_law_b1014 t0 mi L xs kh23 x1 x2 x3 x4
set_option maxRecDepth 20000 in
theorem I_L_law_b459 {l : Launch} {g : GX} (hst : l.stackTraces = false) (x1 : Nat) (x2 : Nat) (x3 : Nat) (x4 : Int32) (kh23 : Int32 → Mo Int32) (hkh23 : ∀ (z4 : Int32), I l g M_L_law cvI 23 [(0, .ref (gb g)), (1, .ref x1), (2, .ref x2), (3, .ref x3), (4, .int z4)] [] (kh23 z4)) : I l g M_L_law cvI 459 [(0, .ref (gb g)), (1, .ref x1), (2, .ref x2), (3, .ref x3), (4, .int x4)] [] (L_law_b459 (gt0 g) (gmi g) (gL g) (gxs g) kh23 x1 x2 x3 x4) := by
  unfold L_law_b459
  refine I_goto 1014 dL_law_459 rfl ?_
  refine I_sub [(0, .ref (gb g)), (1, .ref x1), (2, .ref x2), (3, .ref x3), (4, .int x4)] [0, 1, 2, 3, 4] rfl ?_
  exact I_L_law_b1014 hst x1 x2 x3 x4 _ hkh23
def L_law_b534 (t0 mi L : Nat) (xs : Nat → Int32) (kh23 : Int32 → Mo Int32) (x1 : Nat) (x2 : Nat) (x3 : Nat) (x4 : Int32) : Mo Int32 :=
    L_law_b1014 t0 mi L xs kh23 x1 x2 x3 x4
set_option maxRecDepth 20000 in
theorem I_L_law_b534 {l : Launch} {g : GX} (hst : l.stackTraces = false) (x1 : Nat) (x2 : Nat) (x3 : Nat) (x4 : Int32) (kh23 : Int32 → Mo Int32) (hkh23 : ∀ (z4 : Int32), I l g M_L_law cvI 23 [(0, .ref (gb g)), (1, .ref x1), (2, .ref x2), (3, .ref x3), (4, .int z4)] [] (kh23 z4)) : I l g M_L_law cvI 534 [(0, .ref (gb g)), (1, .ref x1), (2, .ref x2), (3, .ref x3), (4, .int x4)] [] (L_law_b534 (gt0 g) (gmi g) (gL g) (gxs g) kh23 x1 x2 x3 x4) := by
  unfold L_law_b534
  refine I_goto 1014 dL_law_534 rfl ?_
  refine I_sub [(0, .ref (gb g)), (1, .ref x1), (2, .ref x2), (3, .ref x3), (4, .int x4)] [0, 1, 2, 3, 4] rfl ?_
  exact I_L_law_b1014 hst x1 x2 x3 x4 _ hkh23
def L_law_b528 (t0 mi L : Nat) (xs : Nat → Int32) (kh23 : Int32 → Mo Int32) (x1 : Nat) (x2 : Nat) (x3 : Nat) (x4 : Int32) (s0 : Int64) (s1 : Int64) : Mo Int32 :=
    (if (lg_cmp s1 s0) = 0 then
    L_law_b534 t0 mi L xs kh23 x1 x2 x3 x4
    else
    rtZ (0 : Int32))
set_option maxRecDepth 20000 in
theorem I_L_law_b528 {l : Launch} {g : GX} (hst : l.stackTraces = false) (x1 : Nat) (x2 : Nat) (x3 : Nat) (x4 : Int32) (s0 : Int64) (s1 : Int64) (kh23 : Int32 → Mo Int32) (hkh23 : ∀ (z4 : Int32), I l g M_L_law cvI 23 [(0, .ref (gb g)), (1, .ref x1), (2, .ref x2), (3, .ref x3), (4, .int z4)] [] (kh23 z4)) : I l g M_L_law cvI 528 [(0, .ref (gb g)), (1, .ref x1), (2, .ref x2), (3, .ref x3), (4, .int x4)] [.long s0, .long s1] (L_law_b528 (gt0 g) (gmi g) (gL g) (gxs g) kh23 x1 x2 x3 x4 s0 s1) := by
  unfold L_law_b528
  refine I_lcmp 529 dL_law_528 rfl ?_
  refine I_if_eq 534 532 dL_law_529 rfl rfl (fun _ => ?_) (fun _ => ?_)
  · refine I_sub [(0, .ref (gb g)), (1, .ref x1), (2, .ref x2), (3, .ref x3), (4, .int x4)] [0, 1, 2, 3, 4] rfl ?_
    exact I_L_law_b534 hst x1 x2 x3 x4 _ hkh23
  · refine I_iconst (0 : Int32) 533 dL_law_532 rfl (by decide) ?_
    exact I_zret dL_law_533 rfl
def L_law_b602 (t0 mi L : Nat) (xs : Nat → Int32) (kh23 : Int32 → Mo Int32) (x1 : Nat) (x2 : Nat) (x3 : Nat) (x4 : Int32) : Mo Int32 :=
    L_law_b1014 t0 mi L xs kh23 x1 x2 x3 x4
set_option maxRecDepth 20000 in
theorem I_L_law_b602 {l : Launch} {g : GX} (hst : l.stackTraces = false) (x1 : Nat) (x2 : Nat) (x3 : Nat) (x4 : Int32) (kh23 : Int32 → Mo Int32) (hkh23 : ∀ (z4 : Int32), I l g M_L_law cvI 23 [(0, .ref (gb g)), (1, .ref x1), (2, .ref x2), (3, .ref x3), (4, .int z4)] [] (kh23 z4)) : I l g M_L_law cvI 602 [(0, .ref (gb g)), (1, .ref x1), (2, .ref x2), (3, .ref x3), (4, .int x4)] [] (L_law_b602 (gt0 g) (gmi g) (gL g) (gxs g) kh23 x1 x2 x3 x4) := by
  unfold L_law_b602
  refine I_goto 1014 dL_law_602 rfl ?_
  refine I_sub [(0, .ref (gb g)), (1, .ref x1), (2, .ref x2), (3, .ref x3), (4, .int x4)] [0, 1, 2, 3, 4] rfl ?_
  exact I_L_law_b1014 hst x1 x2 x3 x4 _ hkh23
def L_law_b682 (t0 mi L : Nat) (xs : Nat → Int32) (kh23 : Int32 → Mo Int32) (x1 : Nat) (x2 : Nat) (x3 : Nat) (x4 : Int32) : Mo Int32 :=
    L_law_b1014 t0 mi L xs kh23 x1 x2 x3 x4
set_option maxRecDepth 20000 in
theorem I_L_law_b682 {l : Launch} {g : GX} (hst : l.stackTraces = false) (x1 : Nat) (x2 : Nat) (x3 : Nat) (x4 : Int32) (kh23 : Int32 → Mo Int32) (hkh23 : ∀ (z4 : Int32), I l g M_L_law cvI 23 [(0, .ref (gb g)), (1, .ref x1), (2, .ref x2), (3, .ref x3), (4, .int z4)] [] (kh23 z4)) : I l g M_L_law cvI 682 [(0, .ref (gb g)), (1, .ref x1), (2, .ref x2), (3, .ref x3), (4, .int x4)] [] (L_law_b682 (gt0 g) (gmi g) (gL g) (gxs g) kh23 x1 x2 x3 x4) := by
  unfold L_law_b682
  refine I_goto 1014 dL_law_682 rfl ?_
  refine I_sub [(0, .ref (gb g)), (1, .ref x1), (2, .ref x2), (3, .ref x3), (4, .int x4)] [0, 1, 2, 3, 4] rfl ?_
  exact I_L_law_b1014 hst x1 x2 x3 x4 _ hkh23
def L_law_b750 (t0 mi L : Nat) (xs : Nat → Int32) (kh23 : Int32 → Mo Int32) (x1 : Nat) (x2 : Nat) (x3 : Nat) (x4 : Int32) : Mo Int32 :=
    L_law_b1014 t0 mi L xs kh23 x1 x2 x3 x4
set_option maxRecDepth 20000 in
theorem I_L_law_b750 {l : Launch} {g : GX} (hst : l.stackTraces = false) (x1 : Nat) (x2 : Nat) (x3 : Nat) (x4 : Int32) (kh23 : Int32 → Mo Int32) (hkh23 : ∀ (z4 : Int32), I l g M_L_law cvI 23 [(0, .ref (gb g)), (1, .ref x1), (2, .ref x2), (3, .ref x3), (4, .int z4)] [] (kh23 z4)) : I l g M_L_law cvI 750 [(0, .ref (gb g)), (1, .ref x1), (2, .ref x2), (3, .ref x3), (4, .int x4)] [] (L_law_b750 (gt0 g) (gmi g) (gL g) (gxs g) kh23 x1 x2 x3 x4) := by
  unfold L_law_b750
  refine I_goto 1014 dL_law_750 rfl ?_
  refine I_sub [(0, .ref (gb g)), (1, .ref x1), (2, .ref x2), (3, .ref x3), (4, .int x4)] [0, 1, 2, 3, 4] rfl ?_
  exact I_L_law_b1014 hst x1 x2 x3 x4 _ hkh23
def L_law_b806 (t0 mi L : Nat) (xs : Nat → Int32) (kh23 : Int32 → Mo Int32) (x1 : Nat) (x2 : Nat) (x3 : Nat) (x4 : Int32) : Mo Int32 :=
    L_law_b1014 t0 mi L xs kh23 x1 x2 x3 x4
set_option maxRecDepth 20000 in
theorem I_L_law_b806 {l : Launch} {g : GX} (hst : l.stackTraces = false) (x1 : Nat) (x2 : Nat) (x3 : Nat) (x4 : Int32) (kh23 : Int32 → Mo Int32) (hkh23 : ∀ (z4 : Int32), I l g M_L_law cvI 23 [(0, .ref (gb g)), (1, .ref x1), (2, .ref x2), (3, .ref x3), (4, .int z4)] [] (kh23 z4)) : I l g M_L_law cvI 806 [(0, .ref (gb g)), (1, .ref x1), (2, .ref x2), (3, .ref x3), (4, .int x4)] [] (L_law_b806 (gt0 g) (gmi g) (gL g) (gxs g) kh23 x1 x2 x3 x4) := by
  unfold L_law_b806
  refine I_goto 1014 dL_law_806 rfl ?_
  refine I_sub [(0, .ref (gb g)), (1, .ref x1), (2, .ref x2), (3, .ref x3), (4, .int x4)] [0, 1, 2, 3, 4] rfl ?_
  exact I_L_law_b1014 hst x1 x2 x3 x4 _ hkh23
def L_law_b862 (t0 mi L : Nat) (xs : Nat → Int32) (kh23 : Int32 → Mo Int32) (x1 : Nat) (x2 : Nat) (x3 : Nat) (x4 : Int32) : Mo Int32 :=
    L_law_b1014 t0 mi L xs kh23 x1 x2 x3 x4
set_option maxRecDepth 20000 in
theorem I_L_law_b862 {l : Launch} {g : GX} (hst : l.stackTraces = false) (x1 : Nat) (x2 : Nat) (x3 : Nat) (x4 : Int32) (kh23 : Int32 → Mo Int32) (hkh23 : ∀ (z4 : Int32), I l g M_L_law cvI 23 [(0, .ref (gb g)), (1, .ref x1), (2, .ref x2), (3, .ref x3), (4, .int z4)] [] (kh23 z4)) : I l g M_L_law cvI 862 [(0, .ref (gb g)), (1, .ref x1), (2, .ref x2), (3, .ref x3), (4, .int x4)] [] (L_law_b862 (gt0 g) (gmi g) (gL g) (gxs g) kh23 x1 x2 x3 x4) := by
  unfold L_law_b862
  refine I_goto 1014 dL_law_862 rfl ?_
  refine I_sub [(0, .ref (gb g)), (1, .ref x1), (2, .ref x2), (3, .ref x3), (4, .int x4)] [0, 1, 2, 3, 4] rfl ?_
  exact I_L_law_b1014 hst x1 x2 x3 x4 _ hkh23
def L_law_b955 (t0 mi L : Nat) (xs : Nat → Int32) (kh23 : Int32 → Mo Int32) (x1 : Nat) (x2 : Nat) (x3 : Nat) (x4 : Int32) : Mo Int32 :=
    L_law_b1014 t0 mi L xs kh23 x1 x2 x3 x4
set_option maxRecDepth 20000 in
theorem I_L_law_b955 {l : Launch} {g : GX} (hst : l.stackTraces = false) (x1 : Nat) (x2 : Nat) (x3 : Nat) (x4 : Int32) (kh23 : Int32 → Mo Int32) (hkh23 : ∀ (z4 : Int32), I l g M_L_law cvI 23 [(0, .ref (gb g)), (1, .ref x1), (2, .ref x2), (3, .ref x3), (4, .int z4)] [] (kh23 z4)) : I l g M_L_law cvI 955 [(0, .ref (gb g)), (1, .ref x1), (2, .ref x2), (3, .ref x3), (4, .int x4)] [] (L_law_b955 (gt0 g) (gmi g) (gL g) (gxs g) kh23 x1 x2 x3 x4) := by
  unfold L_law_b955
  refine I_goto 1014 dL_law_955 rfl ?_
  refine I_sub [(0, .ref (gb g)), (1, .ref x1), (2, .ref x2), (3, .ref x3), (4, .int x4)] [0, 1, 2, 3, 4] rfl ?_
  exact I_L_law_b1014 hst x1 x2 x3 x4 _ hkh23
def L_law_b1011 (t0 mi L : Nat) (xs : Nat → Int32) (kh23 : Int32 → Mo Int32) (x1 : Nat) (x2 : Nat) (x3 : Nat) (x4 : Int32) : Mo Int32 :=
    L_law_b1014 t0 mi L xs kh23 x1 x2 x3 x4
set_option maxRecDepth 20000 in
theorem I_L_law_b1011 {l : Launch} {g : GX} (hst : l.stackTraces = false) (x1 : Nat) (x2 : Nat) (x3 : Nat) (x4 : Int32) (kh23 : Int32 → Mo Int32) (hkh23 : ∀ (z4 : Int32), I l g M_L_law cvI 23 [(0, .ref (gb g)), (1, .ref x1), (2, .ref x2), (3, .ref x3), (4, .int z4)] [] (kh23 z4)) : I l g M_L_law cvI 1011 [(0, .ref (gb g)), (1, .ref x1), (2, .ref x2), (3, .ref x3), (4, .int x4)] [] (L_law_b1011 (gt0 g) (gmi g) (gL g) (gxs g) kh23 x1 x2 x3 x4) := by
  unfold L_law_b1011
  refine I_goto 1014 dL_law_1011 rfl ?_
  refine I_sub [(0, .ref (gb g)), (1, .ref x1), (2, .ref x2), (3, .ref x3), (4, .int x4)] [0, 1, 2, 3, 4] rfl ?_
  exact I_L_law_b1014 hst x1 x2 x3 x4 _ hkh23
def L_law_L23 (t0 mi L : Nat) (xs : Nat → Int32) (x1 : Nat) (x2 : Nat) (x3 : Nat) (kx : Mo Int32) : Nat → Int32 → Mo Int32
  | 0, _ => flr
  | n + 1, x4 =>
    (if ((Int32.ofNat L) - (7 : Int32)) < x4 then
    kx
    else
    bnd (ldS L xs x4) fun v36 =>
    (if (v36 &&& (15 : Int32)) = 0 then
    bnd (ldS L xs (x4 + (1 : Int32))) fun v126 =>
    bnd (vc x1 6 (f_X5_station t0 mi x1 v126)) fun v127 =>
    bnd (ldS L xs (x4 + (1 : Int32))) fun v136 =>
    bnd (vc x2 7 (f_X6_station t0 mi x2 v136)) fun v137 =>
    (if v127 = v137 then
    L_law_b1014 t0 mi L xs (L_law_L23 t0 mi L xs x1 x2 x3 kx n) x1 x2 x3 x4
    else
    rtZ (0 : Int32))
    else
    (if (v36 &&& (15 : Int32)) = 1 then
    bnd (ldS L xs (x4 + (1 : Int32))) fun v151 =>
    bnd (vc x1 6 (f_X5_train t0 mi x1 v151)) fun v152 =>
    bnd (ldS L xs (x4 + (1 : Int32))) fun v161 =>
    bnd (vc x2 7 (f_X6_train t0 mi x2 v161)) fun v162 =>
    (if v152 = v162 then
    L_law_b1014 t0 mi L xs (L_law_L23 t0 mi L xs x1 x2 x3 kx n) x1 x2 x3 x4
    else
    rtZ (0 : Int32))
    else
    (if (v36 &&& (15 : Int32)) = 2 then
    bnd (ldS L xs (x4 + (1 : Int32))) fun v176 =>
    bnd (ldS L xs (x4 + (2 : Int32))) fun v182 =>
    bnd (ldS L xs (x4 + (3 : Int32))) fun v188 =>
    bnd (f_L_stop t0 mi x1 v176 v182 v188 x3) fun v190 =>
    bnd (ldS L xs (x4 + (1 : Int32))) fun v201 =>
    bnd (ldS L xs (x4 + (2 : Int32))) fun v207 =>
    bnd (ldS L xs (x4 + (3 : Int32))) fun v213 =>
    bnd (vc x2 7 (f_X6_stop t0 mi x2 v201 v207 v213)) fun v214 =>
    bnd (vc x2 7 (f_X6_thrown t0 mi x2)) fun v220 =>
    (if v220 = v190 then
    (if v190 = 0 then
    bnd (ldL x3 (0 : Int32)) fun v237 =>
    (if (lg_cmp v237 v214.toInt64) = 0 then
    L_law_b247 t0 mi L xs (L_law_L23 t0 mi L xs x1 x2 x3 kx n) x1 x2 x3 x4
    else
    rtZ (0 : Int32))
    else
    L_law_b247 t0 mi L xs (L_law_L23 t0 mi L xs x1 x2 x3 kx n) x1 x2 x3 x4)
    else
    rtZ (0 : Int32))
    else
    (if (v36 &&& (15 : Int32)) = 3 then
    bnd (ldS L xs (x4 + (1 : Int32))) fun v256 =>
    bnd (ldS L xs (x4 + (2 : Int32))) fun v262 =>
    bnd (ldS L xs (x4 + (3 : Int32))) fun v268 =>
    bnd (ldS L xs (x4 + (4 : Int32))) fun v274 =>
    bnd (ldS L xs (x4 + (5 : Int32))) fun v280 =>
    bnd (ldS L xs (x4 + (6 : Int32))) fun v287 =>
    bnd (vc x1 6 (f_X5_box t0 mi x1 v256 v262 v268 v274 v280 v287)) fun v288 =>
    bnd (ldS L xs (x4 + (1 : Int32))) fun v297 =>
    bnd (ldS L xs (x4 + (2 : Int32))) fun v303 =>
    bnd (ldS L xs (x4 + (3 : Int32))) fun v309 =>
    bnd (ldS L xs (x4 + (4 : Int32))) fun v315 =>
    bnd (ldS L xs (x4 + (5 : Int32))) fun v321 =>
    bnd (ldS L xs (x4 + (6 : Int32))) fun v328 =>
    bnd (vc x2 7 (f_X6_box t0 mi x2 v297 v303 v309 v315 v321 v328)) fun v329 =>
    (if v288 = v329 then
    L_law_b1014 t0 mi L xs (L_law_L23 t0 mi L xs x1 x2 x3 kx n) x1 x2 x3 x4
    else
    rtZ (0 : Int32))
    else
    (if (v36 &&& (15 : Int32)) = 4 then
    bnd (vc x1 6 (f_X5_plan t0 mi x1)) fun v338 =>
    bnd (vc x2 7 (f_X6_plan t0 mi x2)) fun v342 =>
    (if v338 = v342 then
    L_law_b1014 t0 mi L xs (L_law_L23 t0 mi L xs x1 x2 x3 kx n) x1 x2 x3 x4
    else
    rtZ (0 : Int32))
    else
    (if (v36 &&& (15 : Int32)) = 5 then
    bnd (ldS L xs (x4 + (1 : Int32))) fun v356 =>
    bnd (f_L_minutes t0 mi x1 v356 x3) fun v358 =>
    bnd (ldS L xs (x4 + (1 : Int32))) fun v369 =>
    bnd (vc x2 7 (f_X6_minutes t0 mi x2 v369)) fun v370 =>
    bnd (vc x2 7 (f_X6_thrown t0 mi x2)) fun v376 =>
    (if v376 = v358 then
    (if v358 = 0 then
    bnd (ldL x3 (0 : Int32)) fun v393 =>
    (if (lg_cmp v393 v370.toInt64) = 0 then
    L_law_b403 t0 mi L xs (L_law_L23 t0 mi L xs x1 x2 x3 kx n) x1 x2 x3 x4
    else
    rtZ (0 : Int32))
    else
    L_law_b403 t0 mi L xs (L_law_L23 t0 mi L xs x1 x2 x3 kx n) x1 x2 x3 x4)
    else
    rtZ (0 : Int32))
    else
    (if (v36 &&& (15 : Int32)) = 6 then
    bnd (ldS L xs (x4 + (1 : Int32))) fun v412 =>
    bnd (f_L_cancel t0 mi x1 v412 x3) fun v414 =>
    bnd (ldS L xs (x4 + (1 : Int32))) fun v425 =>
    bnd (vc x2 7 (f_X6_cancel t0 mi x2 v425)) fun v426 =>
    bnd (vc x2 7 (f_X6_thrown t0 mi x2)) fun v432 =>
    (if v432 = v414 then
    (if v414 = 0 then
    bnd (ldL x3 (0 : Int32)) fun v449 =>
    (if (lg_cmp v449 v426.toInt64) = 0 then
    L_law_b459 t0 mi L xs (L_law_L23 t0 mi L xs x1 x2 x3 kx n) x1 x2 x3 x4
    else
    rtZ (0 : Int32))
    else
    L_law_b459 t0 mi L xs (L_law_L23 t0 mi L xs x1 x2 x3 kx n) x1 x2 x3 x4)
    else
    rtZ (0 : Int32))
    else
    (if (v36 &&& (15 : Int32)) = 7 then
    bnd (ldS L xs (x4 + (1 : Int32))) fun v468 =>
    bnd (ldS L xs (x4 + (2 : Int32))) fun v474 =>
    bnd (f_L_empty t0 mi x1 v468 v474 x3) fun v476 =>
    bnd (ldS L xs (x4 + (1 : Int32))) fun v487 =>
    bnd (ldS L xs (x4 + (2 : Int32))) fun v493 =>
    bnd (vc x2 7 (f_X6_empty t0 mi x2 v487 v493)) fun v494 =>
    bnd (vc x2 7 (f_X6_thrown t0 mi x2)) fun v500 =>
    (if v500 = v476 then
    (if v476 = 0 then
    bnd (ldL x3 (0 : Int32)) fun v517 =>
    (if v494 = 0 then
    L_law_b528 t0 mi L xs (L_law_L23 t0 mi L xs x1 x2 x3 kx n) x1 x2 x3 x4 (0 : Int64) v517
    else
    L_law_b528 t0 mi L xs (L_law_L23 t0 mi L xs x1 x2 x3 kx n) x1 x2 x3 x4 (1 : Int64) v517)
    else
    L_law_b534 t0 mi L xs (L_law_L23 t0 mi L xs x1 x2 x3 kx n) x1 x2 x3 x4)
    else
    rtZ (0 : Int32))
    else
    (if (v36 &&& (15 : Int32)) = 8 then
    bnd (ldS L xs (x4 + (1 : Int32))) fun v543 =>
    bnd (ldS L xs (x4 + (2 : Int32))) fun v549 =>
    bnd (f_L_of t0 mi x1 v543 v549 x3) fun v551 =>
    bnd (ldS L xs (x4 + (1 : Int32))) fun v562 =>
    bnd (ldS L xs (x4 + (2 : Int32))) fun v568 =>
    bnd (vc x2 7 (f_X6_of t0 mi x2 v562 v568)) fun v569 =>
    bnd (vc x2 7 (f_X6_thrown t0 mi x2)) fun v575 =>
    (if v575 = v551 then
    (if v551 = 0 then
    bnd (ldL x3 (0 : Int32)) fun v592 =>
    (if (lg_cmp v592 v569.toInt64) = 0 then
    L_law_b602 t0 mi L xs (L_law_L23 t0 mi L xs x1 x2 x3 kx n) x1 x2 x3 x4
    else
    rtZ (0 : Int32))
    else
    L_law_b602 t0 mi L xs (L_law_L23 t0 mi L xs x1 x2 x3 kx n) x1 x2 x3 x4)
    else
    rtZ (0 : Int32))
    else
    (if (v36 &&& (15 : Int32)) = 9 then
    bnd (ldS L xs (x4 + (1 : Int32))) fun v611 =>
    bnd (ldS L xs (x4 + (2 : Int32))) fun v617 =>
    bnd (ldS L xs (x4 + (3 : Int32))) fun v623 =>
    bnd (f_L_leg t0 mi x1 v611 v617 v623 x3) fun v625 =>
    bnd (ldS L xs (x4 + (1 : Int32))) fun v636 =>
    bnd (ldS L xs (x4 + (2 : Int32))) fun v642 =>
    bnd (ldS L xs (x4 + (3 : Int32))) fun v648 =>
    bnd (vc x2 7 (f_X6_leg t0 mi x2 v636 v642 v648)) fun v649 =>
    bnd (vc x2 7 (f_X6_thrown t0 mi x2)) fun v655 =>
    (if v655 = v625 then
    (if v625 = 0 then
    bnd (ldL x3 (0 : Int32)) fun v672 =>
    (if (lg_cmp v672 v649.toInt64) = 0 then
    L_law_b682 t0 mi L xs (L_law_L23 t0 mi L xs x1 x2 x3 kx n) x1 x2 x3 x4
    else
    rtZ (0 : Int32))
    else
    L_law_b682 t0 mi L xs (L_law_L23 t0 mi L xs x1 x2 x3 kx n) x1 x2 x3 x4)
    else
    rtZ (0 : Int32))
    else
    (if (v36 &&& (15 : Int32)) = 10 then
    bnd (ldS L xs (x4 + (1 : Int32))) fun v691 =>
    bnd (ldS L xs (x4 + (2 : Int32))) fun v697 =>
    bnd (f_L_load t0 mi x1 v691 v697 x3) fun v699 =>
    bnd (ldS L xs (x4 + (1 : Int32))) fun v710 =>
    bnd (ldS L xs (x4 + (2 : Int32))) fun v716 =>
    bnd (vc x2 7 (f_X6_load t0 mi x2 v710 v716)) fun v717 =>
    bnd (vc x2 7 (f_X6_thrown t0 mi x2)) fun v723 =>
    (if v723 = v699 then
    (if v699 = 0 then
    bnd (ldL x3 (0 : Int32)) fun v740 =>
    (if (lg_cmp v740 v717.toInt64) = 0 then
    L_law_b750 t0 mi L xs (L_law_L23 t0 mi L xs x1 x2 x3 kx n) x1 x2 x3 x4
    else
    rtZ (0 : Int32))
    else
    L_law_b750 t0 mi L xs (L_law_L23 t0 mi L xs x1 x2 x3 kx n) x1 x2 x3 x4)
    else
    rtZ (0 : Int32))
    else
    (if (v36 &&& (15 : Int32)) = 11 then
    bnd (ldS L xs (x4 + (1 : Int32))) fun v759 =>
    bnd (f_L_where t0 mi x1 v759 x3) fun v761 =>
    bnd (ldS L xs (x4 + (1 : Int32))) fun v772 =>
    bnd (vc x2 7 (f_X6_where t0 mi x2 v772)) fun v773 =>
    bnd (vc x2 7 (f_X6_thrown t0 mi x2)) fun v779 =>
    (if v779 = v761 then
    (if v761 = 0 then
    bnd (ldL x3 (0 : Int32)) fun v796 =>
    (if (lg_cmp v796 v773.toInt64) = 0 then
    L_law_b806 t0 mi L xs (L_law_L23 t0 mi L xs x1 x2 x3 kx n) x1 x2 x3 x4
    else
    rtZ (0 : Int32))
    else
    L_law_b806 t0 mi L xs (L_law_L23 t0 mi L xs x1 x2 x3 kx n) x1 x2 x3 x4)
    else
    rtZ (0 : Int32))
    else
    (if (v36 &&& (15 : Int32)) = 12 then
    bnd (ldS L xs (x4 + (1 : Int32))) fun v815 =>
    bnd (f_L_mark t0 mi x1 v815 x3) fun v817 =>
    bnd (ldS L xs (x4 + (1 : Int32))) fun v828 =>
    bnd (vc x2 7 (f_X6_mark t0 mi x2 v828)) fun v829 =>
    bnd (vc x2 7 (f_X6_thrown t0 mi x2)) fun v835 =>
    (if v835 = v817 then
    (if v817 = 0 then
    bnd (ldL x3 (0 : Int32)) fun v852 =>
    (if (lg_cmp v852 v829.toInt64) = 0 then
    L_law_b862 t0 mi L xs (L_law_L23 t0 mi L xs x1 x2 x3 kx n) x1 x2 x3 x4
    else
    rtZ (0 : Int32))
    else
    L_law_b862 t0 mi L xs (L_law_L23 t0 mi L xs x1 x2 x3 kx n) x1 x2 x3 x4)
    else
    rtZ (0 : Int32))
    else
    (if (v36 &&& (15 : Int32)) = 13 then
    bnd (ldS L xs (x4 + (1 : Int32))) fun v871 =>
    bnd (vc x1 6 (f_X5_carrier t0 mi x1 v871)) fun v872 =>
    bnd (ldS L xs (x4 + (1 : Int32))) fun v881 =>
    bnd (vc x2 7 (f_X6_carrier t0 mi x2 v881)) fun v882 =>
    (if v872 = v882 then
    L_law_b1014 t0 mi L xs (L_law_L23 t0 mi L xs x1 x2 x3 kx n) x1 x2 x3 x4
    else
    rtZ (0 : Int32))
    else
    (if (v36 &&& (15 : Int32)) = 14 then
    bnd (ldS L xs (x4 + (1 : Int32))) fun v896 =>
    bnd (ldS L xs (x4 + (2 : Int32))) fun v902 =>
    bnd (f_L_share t0 mi x1 v896 v902 x3) fun v904 =>
    bnd (ldS L xs (x4 + (1 : Int32))) fun v915 =>
    bnd (ldS L xs (x4 + (2 : Int32))) fun v921 =>
    bnd (vc x2 7 (f_X6_share t0 mi x2 v915 v921)) fun v922 =>
    bnd (vc x2 7 (f_X6_thrown t0 mi x2)) fun v928 =>
    (if v928 = v904 then
    (if v904 = 0 then
    bnd (ldL x3 (0 : Int32)) fun v945 =>
    (if (lg_cmp v945 v922.toInt64) = 0 then
    L_law_b955 t0 mi L xs (L_law_L23 t0 mi L xs x1 x2 x3 kx n) x1 x2 x3 x4
    else
    rtZ (0 : Int32))
    else
    L_law_b955 t0 mi L xs (L_law_L23 t0 mi L xs x1 x2 x3 kx n) x1 x2 x3 x4)
    else
    rtZ (0 : Int32))
    else
    (if (v36 &&& (15 : Int32)) = 15 then
    bnd (ldS L xs (x4 + (1 : Int32))) fun v964 =>
    bnd (f_L_count t0 mi x1 v964 x3) fun v966 =>
    bnd (ldS L xs (x4 + (1 : Int32))) fun v977 =>
    bnd (vc x2 7 (f_X6_count t0 mi x2 v977)) fun v978 =>
    bnd (vc x2 7 (f_X6_thrown t0 mi x2)) fun v984 =>
    (if v984 = v966 then
    (if v966 = 0 then
    bnd (ldL x3 (0 : Int32)) fun v1001 =>
    (if (lg_cmp v1001 v978.toInt64) = 0 then
    L_law_b1011 t0 mi L xs (L_law_L23 t0 mi L xs x1 x2 x3 kx n) x1 x2 x3 x4
    else
    rtZ (0 : Int32))
    else
    L_law_b1011 t0 mi L xs (L_law_L23 t0 mi L xs x1 x2 x3 kx n) x1 x2 x3 x4)
    else
    rtZ (0 : Int32))
    else
    L_law_b1014 t0 mi L xs (L_law_L23 t0 mi L xs x1 x2 x3 kx n) x1 x2 x3 x4)))))))))))))))))
set_option maxRecDepth 20000 in
theorem I_L_law_L23 {l : Launch} {g : GX} (hst : l.stackTraces = false) (x1 : Nat) (x2 : Nat) (x3 : Nat) (kx : Mo Int32) (hkx : I l g M_L_law cvI 1020 [] [] kx) : ∀ (n : Nat) (x4 : Int32), I l g M_L_law cvI 23 [(0, .ref (gb g)), (1, .ref x1), (2, .ref x2), (3, .ref x3), (4, .int x4)] [] (L_law_L23 (gt0 g) (gmi g) (gL g) (gxs g) x1 x2 x3 kx n x4) := by
  intro n
  induction n with
  | zero => intro x4; rw [L_law_L23]; exact I_flr
  | succ n ih =>
    intro x4; rw [L_law_L23]
    refine I_iload 4 25 dL_law_23 rfl rfl ?_
    refine I_aload_n 0 26 dL_law_25 rfl rfl rfl ?_
    refine I_slen 27 dL_law_26 rfl ?_
    refine I_bipush (7 : Int32) 29 dL_law_27 rfl (by decide) ?_
    refine I_isub 30 dL_law_29 rfl ?_
    refine I_icmp_gt 1020 33 dL_law_30 rfl rfl (fun _ => ?_) (fun _ => ?_)
    · refine I_sub [] [] rfl ?_
      exact hkx
    · refine I_aload_n 0 34 dL_law_33 rfl rfl rfl ?_
      refine I_iload 4 36 dL_law_34 rfl rfl ?_
      refine I_sld 37 dL_law_36 rfl (fun v36 => ?_)
      refine I_bipush (15 : Int32) 39 dL_law_37 rfl (by decide) ?_
      refine I_iand 40 dL_law_39 rfl ?_
      refine I_case (fun e0 => ?_) (fun e0 => ?_)
      · refine I_tableIn 120 dL_law_40 (by rw [e0]; decide) (by rw [e0]; decide) (by rw [e0]; rfl) rfl ?_
        refine I_aload_n 1 121 dL_law_120 rfl rfl rfl ?_
        refine I_aload_n 0 122 dL_law_121 rfl rfl rfl ?_
        refine I_iload 4 124 dL_law_122 rfl rfl ?_
        refine I_iconst (1 : Int32) 125 dL_law_124 rfl (by decide) ?_
        refine I_iadd 126 dL_law_125 rfl ?_
        refine I_sld 127 dL_law_126 rfl (fun v126 => ?_)
        refine I_callVi (As := [.int v126]) (rest := []) 130 (C_X5_station hst x1 v126) dL_law_127 rfl cl6 rfl (by decide) (Nat.le_of_ble_eq_true rfl) wcd_628 win_81 wml_629 wim_630 wse_631 ⟨by decide, by decide, pd_X5_station⟩ (fun x hx => by cases hx) (fun v127 => ?_)
        refine I_aload_n 2 131 dL_law_130 rfl rfl rfl ?_
        refine I_aload_n 0 132 dL_law_131 rfl rfl rfl ?_
        refine I_iload 4 134 dL_law_132 rfl rfl ?_
        refine I_iconst (1 : Int32) 135 dL_law_134 rfl (by decide) ?_
        refine I_iadd 136 dL_law_135 rfl ?_
        refine I_sld 137 dL_law_136 rfl (fun v136 => ?_)
        refine I_callVi (As := [.int v136]) (rest := [.int v127]) 140 (C_X6_station hst x2 v136) dL_law_137 rfl cl7 rfl (by decide) (Nat.le_of_ble_eq_true rfl) wcd_632 win_200 wml_633 wim_634 wse_635 ⟨by decide, by decide, pd_X6_station⟩ (fun x hx => by cases hx) (fun v137 => ?_)
        refine I_icmp_eq 1014 143 dL_law_140 rfl rfl (fun _ => ?_) (fun _ => ?_)
        · refine I_sub [(0, .ref (gb g)), (1, .ref x1), (2, .ref x2), (3, .ref x3), (4, .int x4)] [0, 1, 2, 3, 4] rfl ?_
          exact I_L_law_b1014 hst x1 x2 x3 x4 _ ih
        · refine I_iconst (0 : Int32) 144 dL_law_143 rfl (by decide) ?_
          exact I_zret dL_law_144 rfl
      refine I_case (fun e1 => ?_) (fun e1 => ?_)
      · refine I_tableIn 145 dL_law_40 (by rw [e1]; decide) (by rw [e1]; decide) (by rw [e1]; rfl) rfl ?_
        refine I_aload_n 1 146 dL_law_145 rfl rfl rfl ?_
        refine I_aload_n 0 147 dL_law_146 rfl rfl rfl ?_
        refine I_iload 4 149 dL_law_147 rfl rfl ?_
        refine I_iconst (1 : Int32) 150 dL_law_149 rfl (by decide) ?_
        refine I_iadd 151 dL_law_150 rfl ?_
        refine I_sld 152 dL_law_151 rfl (fun v151 => ?_)
        refine I_callVi (As := [.int v151]) (rest := []) 155 (C_X5_train hst x1 v151) dL_law_152 rfl cl6 rfl (by decide) (Nat.le_of_ble_eq_true rfl) wcd_636 win_81 wml_637 wim_638 wse_639 ⟨by decide, by decide, pd_X5_train⟩ (fun x hx => by cases hx) (fun v152 => ?_)
        refine I_aload_n 2 156 dL_law_155 rfl rfl rfl ?_
        refine I_aload_n 0 157 dL_law_156 rfl rfl rfl ?_
        refine I_iload 4 159 dL_law_157 rfl rfl ?_
        refine I_iconst (1 : Int32) 160 dL_law_159 rfl (by decide) ?_
        refine I_iadd 161 dL_law_160 rfl ?_
        refine I_sld 162 dL_law_161 rfl (fun v161 => ?_)
        refine I_callVi (As := [.int v161]) (rest := [.int v152]) 165 (C_X6_train hst x2 v161) dL_law_162 rfl cl7 rfl (by decide) (Nat.le_of_ble_eq_true rfl) wcd_640 win_200 wml_641 wim_642 wse_643 ⟨by decide, by decide, pd_X6_train⟩ (fun x hx => by cases hx) (fun v162 => ?_)
        refine I_icmp_eq 1014 168 dL_law_165 rfl rfl (fun _ => ?_) (fun _ => ?_)
        · refine I_sub [(0, .ref (gb g)), (1, .ref x1), (2, .ref x2), (3, .ref x3), (4, .int x4)] [0, 1, 2, 3, 4] rfl ?_
          exact I_L_law_b1014 hst x1 x2 x3 x4 _ ih
        · refine I_iconst (0 : Int32) 169 dL_law_168 rfl (by decide) ?_
          exact I_zret dL_law_169 rfl
      refine I_case (fun e2 => ?_) (fun e2 => ?_)
      · refine I_tableIn 170 dL_law_40 (by rw [e2]; decide) (by rw [e2]; decide) (by rw [e2]; rfl) rfl ?_
        refine I_aload_n 1 171 dL_law_170 rfl rfl rfl ?_
        refine I_aload_n 0 172 dL_law_171 rfl rfl rfl ?_
        refine I_iload 4 174 dL_law_172 rfl rfl ?_
        refine I_iconst (1 : Int32) 175 dL_law_174 rfl (by decide) ?_
        refine I_iadd 176 dL_law_175 rfl ?_
        refine I_sld 177 dL_law_176 rfl (fun v176 => ?_)
        refine I_aload_n 0 178 dL_law_177 rfl rfl rfl ?_
        refine I_iload 4 180 dL_law_178 rfl rfl ?_
        refine I_iconst (2 : Int32) 181 dL_law_180 rfl (by decide) ?_
        refine I_iadd 182 dL_law_181 rfl ?_
        refine I_sld 183 dL_law_182 rfl (fun v182 => ?_)
        refine I_aload_n 0 184 dL_law_183 rfl rfl rfl ?_
        refine I_iload 4 186 dL_law_184 rfl rfl ?_
        refine I_iconst (3 : Int32) 187 dL_law_186 rfl (by decide) ?_
        refine I_iadd 188 dL_law_187 rfl ?_
        refine I_sld 189 dL_law_188 rfl (fun v188 => ?_)
        refine I_aload_n 3 190 dL_law_189 rfl rfl rfl ?_
        refine I_callSiX (As := [.ref x1, .int v176, .int v182, .int v188, .ref x3]) (rest := []) 193 (C_L_stop hst x1 v176 v182 v188 x3) dL_law_190 rfl rfl (by decide) (Nat.le_of_ble_eq_true rfl) wcd_644 win_645 wml_646 wst_647 ⟨by decide, by decide, pd_L_stop⟩ (fun x hx => by cases hx) (fun v190 => ?_)
        refine I_istore 195 [(5, .int v190), (0, .ref (gb g)), (1, .ref x1), (2, .ref x2), (3, .ref x3), (4, .int x4)] dL_law_193 rfl (by decide) rfl ?_
        refine I_aload_n 3 196 dL_law_195 rfl rfl rfl ?_
        refine I_aload_n 1 197 dL_law_196 rfl rfl rfl ?_
        refine I_iload 5 199 dL_law_197 rfl rfl ?_
        refine I_iconst (1 : Int32) 200 dL_law_199 rfl (by decide) ?_
        refine I_iadd 201 dL_law_200 rfl ?_
        refine I_sld 202 dL_law_201 rfl (fun v201 => ?_)
        refine I_aload_n 1 203 dL_law_202 rfl rfl rfl ?_
        refine I_iload 5 205 dL_law_203 rfl rfl ?_
        refine I_iconst (2 : Int32) 206 dL_law_205 rfl (by decide) ?_
        refine I_iadd 207 dL_law_206 rfl ?_
        refine I_sld 208 dL_law_207 rfl (fun v207 => ?_)
        refine I_aload_n 1 209 dL_law_208 rfl rfl rfl ?_
        refine I_iload 5 211 dL_law_209 rfl rfl ?_
        refine I_iconst (3 : Int32) 212 dL_law_211 rfl (by decide) ?_
        refine I_iadd 213 dL_law_212 rfl ?_
        refine I_sld 214 dL_law_213 rfl (fun v213 => ?_)
        refine I_callVi (As := [.int v201, .int v207, .int v213]) (rest := []) 217 (C_X6_stop hst x2 v201 v207 v213) dL_law_214 rfl cl7 rfl (by decide) (Nat.le_of_ble_eq_true rfl) wcd_648 win_200 wml_649 wim_650 wse_651 ⟨by decide, by decide, pd_X6_stop⟩ (fun x hx => by cases hx) (fun v214 => ?_)
        refine I_istore 219 [(6, .int v214), (5, .int v190), (0, .ref (gb g)), (1, .ref x1), (2, .ref x2), (3, .ref x3), (4, .int x4)] dL_law_217 rfl (by decide) rfl ?_
        refine I_aload_n 4 220 dL_law_219 rfl rfl rfl ?_
        refine I_callVi (As := []) (rest := []) 223 (C_X6_thrown hst x2) dL_law_220 rfl cl7 rfl (by decide) (Nat.le_of_ble_eq_true rfl) wcd_652 win_200 wml_653 wim_654 wse_655 ⟨by decide, by decide, pd_X6_thrown⟩ (fun x hx => by cases hx) (fun v220 => ?_)
        refine I_iload 1 225 dL_law_223 rfl rfl ?_
        refine I_icmp_eq 230 228 dL_law_225 rfl rfl (fun _ => ?_) (fun _ => ?_)
        · refine I_iload 1 232 dL_law_230 rfl rfl ?_
          refine I_if_ne 247 235 dL_law_232 rfl rfl (fun _ => ?_) (fun _ => ?_)
          · refine I_aload_n 5 236 dL_law_235 rfl rfl rfl ?_
            refine I_iconst (0 : Int32) 237 dL_law_236 rfl (by decide) ?_
            refine I_lald 238 dL_law_237 rfl (fun v237 => ?_)
            refine I_iload 0 240 dL_law_238 rfl rfl ?_
            refine I_i2l 241 dL_law_240 rfl ?_
            refine I_lcmp 242 dL_law_241 rfl ?_
            refine I_if_eq 247 245 dL_law_242 rfl rfl (fun _ => ?_) (fun _ => ?_)
            · refine I_sub [(0, .ref (gb g)), (1, .ref x1), (2, .ref x2), (3, .ref x3), (4, .int x4)] [2, 3, 4, 5, 6] rfl ?_
              exact I_L_law_b247 hst x1 x2 x3 x4 _ ih
            · refine I_iconst (0 : Int32) 246 dL_law_245 rfl (by decide) ?_
              exact I_zret dL_law_246 rfl
          · refine I_sub [(0, .ref (gb g)), (1, .ref x1), (2, .ref x2), (3, .ref x3), (4, .int x4)] [2, 3, 4, 5, 6] rfl ?_
            exact I_L_law_b247 hst x1 x2 x3 x4 _ ih
        · refine I_iconst (0 : Int32) 229 dL_law_228 rfl (by decide) ?_
          exact I_zret dL_law_229 rfl
      refine I_case (fun e3 => ?_) (fun e3 => ?_)
      · refine I_tableIn 250 dL_law_40 (by rw [e3]; decide) (by rw [e3]; decide) (by rw [e3]; rfl) rfl ?_
        refine I_aload_n 1 251 dL_law_250 rfl rfl rfl ?_
        refine I_aload_n 0 252 dL_law_251 rfl rfl rfl ?_
        refine I_iload 4 254 dL_law_252 rfl rfl ?_
        refine I_iconst (1 : Int32) 255 dL_law_254 rfl (by decide) ?_
        refine I_iadd 256 dL_law_255 rfl ?_
        refine I_sld 257 dL_law_256 rfl (fun v256 => ?_)
        refine I_aload_n 0 258 dL_law_257 rfl rfl rfl ?_
        refine I_iload 4 260 dL_law_258 rfl rfl ?_
        refine I_iconst (2 : Int32) 261 dL_law_260 rfl (by decide) ?_
        refine I_iadd 262 dL_law_261 rfl ?_
        refine I_sld 263 dL_law_262 rfl (fun v262 => ?_)
        refine I_aload_n 0 264 dL_law_263 rfl rfl rfl ?_
        refine I_iload 4 266 dL_law_264 rfl rfl ?_
        refine I_iconst (3 : Int32) 267 dL_law_266 rfl (by decide) ?_
        refine I_iadd 268 dL_law_267 rfl ?_
        refine I_sld 269 dL_law_268 rfl (fun v268 => ?_)
        refine I_aload_n 0 270 dL_law_269 rfl rfl rfl ?_
        refine I_iload 4 272 dL_law_270 rfl rfl ?_
        refine I_iconst (4 : Int32) 273 dL_law_272 rfl (by decide) ?_
        refine I_iadd 274 dL_law_273 rfl ?_
        refine I_sld 275 dL_law_274 rfl (fun v274 => ?_)
        refine I_aload_n 0 276 dL_law_275 rfl rfl rfl ?_
        refine I_iload 4 278 dL_law_276 rfl rfl ?_
        refine I_iconst (5 : Int32) 279 dL_law_278 rfl (by decide) ?_
        refine I_iadd 280 dL_law_279 rfl ?_
        refine I_sld 281 dL_law_280 rfl (fun v280 => ?_)
        refine I_aload_n 0 282 dL_law_281 rfl rfl rfl ?_
        refine I_iload 4 284 dL_law_282 rfl rfl ?_
        refine I_bipush (6 : Int32) 286 dL_law_284 rfl (by decide) ?_
        refine I_iadd 287 dL_law_286 rfl ?_
        refine I_sld 288 dL_law_287 rfl (fun v287 => ?_)
        refine I_callVi (As := [.int v256, .int v262, .int v268, .int v274, .int v280, .int v287]) (rest := []) 291 (C_X5_box hst x1 v256 v262 v268 v274 v280 v287) dL_law_288 rfl cl6 rfl (by decide) (Nat.le_of_ble_eq_true rfl) wcd_656 win_81 wml_657 wim_658 wse_659 ⟨by decide, by decide, pd_X5_box⟩ (fun x hx => by cases hx) (fun v288 => ?_)
        refine I_aload_n 2 292 dL_law_291 rfl rfl rfl ?_
        refine I_aload_n 0 293 dL_law_292 rfl rfl rfl ?_
        refine I_iload 4 295 dL_law_293 rfl rfl ?_
        refine I_iconst (1 : Int32) 296 dL_law_295 rfl (by decide) ?_
        refine I_iadd 297 dL_law_296 rfl ?_
        refine I_sld 298 dL_law_297 rfl (fun v297 => ?_)
        refine I_aload_n 0 299 dL_law_298 rfl rfl rfl ?_
        refine I_iload 4 301 dL_law_299 rfl rfl ?_
        refine I_iconst (2 : Int32) 302 dL_law_301 rfl (by decide) ?_
        refine I_iadd 303 dL_law_302 rfl ?_
        refine I_sld 304 dL_law_303 rfl (fun v303 => ?_)
        refine I_aload_n 0 305 dL_law_304 rfl rfl rfl ?_
        refine I_iload 4 307 dL_law_305 rfl rfl ?_
        refine I_iconst (3 : Int32) 308 dL_law_307 rfl (by decide) ?_
        refine I_iadd 309 dL_law_308 rfl ?_
        refine I_sld 310 dL_law_309 rfl (fun v309 => ?_)
        refine I_aload_n 0 311 dL_law_310 rfl rfl rfl ?_
        refine I_iload 4 313 dL_law_311 rfl rfl ?_
        refine I_iconst (4 : Int32) 314 dL_law_313 rfl (by decide) ?_
        refine I_iadd 315 dL_law_314 rfl ?_
        refine I_sld 316 dL_law_315 rfl (fun v315 => ?_)
        refine I_aload_n 0 317 dL_law_316 rfl rfl rfl ?_
        refine I_iload 4 319 dL_law_317 rfl rfl ?_
        refine I_iconst (5 : Int32) 320 dL_law_319 rfl (by decide) ?_
        refine I_iadd 321 dL_law_320 rfl ?_
        refine I_sld 322 dL_law_321 rfl (fun v321 => ?_)
        refine I_aload_n 0 323 dL_law_322 rfl rfl rfl ?_
        refine I_iload 4 325 dL_law_323 rfl rfl ?_
        refine I_bipush (6 : Int32) 327 dL_law_325 rfl (by decide) ?_
        refine I_iadd 328 dL_law_327 rfl ?_
        refine I_sld 329 dL_law_328 rfl (fun v328 => ?_)
        refine I_callVi (As := [.int v297, .int v303, .int v309, .int v315, .int v321, .int v328]) (rest := [.int v288]) 332 (C_X6_box hst x2 v297 v303 v309 v315 v321 v328) dL_law_329 rfl cl7 rfl (by decide) (Nat.le_of_ble_eq_true rfl) wcd_660 win_200 wml_661 wim_662 wse_663 ⟨by decide, by decide, pd_X6_box⟩ (fun x hx => by cases hx) (fun v329 => ?_)
        refine I_icmp_eq 1014 335 dL_law_332 rfl rfl (fun _ => ?_) (fun _ => ?_)
        · refine I_sub [(0, .ref (gb g)), (1, .ref x1), (2, .ref x2), (3, .ref x3), (4, .int x4)] [0, 1, 2, 3, 4] rfl ?_
          exact I_L_law_b1014 hst x1 x2 x3 x4 _ ih
        · refine I_iconst (0 : Int32) 336 dL_law_335 rfl (by decide) ?_
          exact I_zret dL_law_336 rfl
      refine I_case (fun e4 => ?_) (fun e4 => ?_)
      · refine I_tableIn 337 dL_law_40 (by rw [e4]; decide) (by rw [e4]; decide) (by rw [e4]; rfl) rfl ?_
        refine I_aload_n 1 338 dL_law_337 rfl rfl rfl ?_
        refine I_callVi (As := []) (rest := []) 341 (C_X5_plan hst x1) dL_law_338 rfl cl6 rfl (by decide) (Nat.le_of_ble_eq_true rfl) wcd_664 win_81 wml_665 wim_666 wse_667 ⟨by decide, by decide, pd_X5_plan⟩ (fun x hx => by cases hx) (fun v338 => ?_)
        refine I_aload_n 2 342 dL_law_341 rfl rfl rfl ?_
        refine I_callVi (As := []) (rest := [.int v338]) 345 (C_X6_plan hst x2) dL_law_342 rfl cl7 rfl (by decide) (Nat.le_of_ble_eq_true rfl) wcd_668 win_200 wml_669 wim_670 wse_671 ⟨by decide, by decide, pd_X6_plan⟩ (fun x hx => by cases hx) (fun v342 => ?_)
        refine I_icmp_eq 1014 348 dL_law_345 rfl rfl (fun _ => ?_) (fun _ => ?_)
        · refine I_sub [(0, .ref (gb g)), (1, .ref x1), (2, .ref x2), (3, .ref x3), (4, .int x4)] [0, 1, 2, 3, 4] rfl ?_
          exact I_L_law_b1014 hst x1 x2 x3 x4 _ ih
        · refine I_iconst (0 : Int32) 349 dL_law_348 rfl (by decide) ?_
          exact I_zret dL_law_349 rfl
      refine I_case (fun e5 => ?_) (fun e5 => ?_)
      · refine I_tableIn 350 dL_law_40 (by rw [e5]; decide) (by rw [e5]; decide) (by rw [e5]; rfl) rfl ?_
        refine I_aload_n 1 351 dL_law_350 rfl rfl rfl ?_
        refine I_aload_n 0 352 dL_law_351 rfl rfl rfl ?_
        refine I_iload 4 354 dL_law_352 rfl rfl ?_
        refine I_iconst (1 : Int32) 355 dL_law_354 rfl (by decide) ?_
        refine I_iadd 356 dL_law_355 rfl ?_
        refine I_sld 357 dL_law_356 rfl (fun v356 => ?_)
        refine I_aload_n 3 358 dL_law_357 rfl rfl rfl ?_
        refine I_callSiX (As := [.ref x1, .int v356, .ref x3]) (rest := []) 361 (C_L_minutes hst x1 v356 x3) dL_law_358 rfl rfl (by decide) (Nat.le_of_ble_eq_true rfl) wcd_672 win_645 wml_673 wst_674 ⟨by decide, by decide, pd_L_minutes⟩ (fun x hx => by cases hx) (fun v358 => ?_)
        refine I_istore 363 [(5, .int v358), (0, .ref (gb g)), (1, .ref x1), (2, .ref x2), (3, .ref x3), (4, .int x4)] dL_law_361 rfl (by decide) rfl ?_
        refine I_aload_n 3 364 dL_law_363 rfl rfl rfl ?_
        refine I_aload_n 1 365 dL_law_364 rfl rfl rfl ?_
        refine I_iload 5 367 dL_law_365 rfl rfl ?_
        refine I_iconst (1 : Int32) 368 dL_law_367 rfl (by decide) ?_
        refine I_iadd 369 dL_law_368 rfl ?_
        refine I_sld 370 dL_law_369 rfl (fun v369 => ?_)
        refine I_callVi (As := [.int v369]) (rest := []) 373 (C_X6_minutes hst x2 v369) dL_law_370 rfl cl7 rfl (by decide) (Nat.le_of_ble_eq_true rfl) wcd_675 win_200 wml_676 wim_677 wse_678 ⟨by decide, by decide, pd_X6_minutes⟩ (fun x hx => by cases hx) (fun v370 => ?_)
        refine I_istore 375 [(6, .int v370), (5, .int v358), (0, .ref (gb g)), (1, .ref x1), (2, .ref x2), (3, .ref x3), (4, .int x4)] dL_law_373 rfl (by decide) rfl ?_
        refine I_aload_n 4 376 dL_law_375 rfl rfl rfl ?_
        refine I_callVi (As := []) (rest := []) 379 (C_X6_thrown hst x2) dL_law_376 rfl cl7 rfl (by decide) (Nat.le_of_ble_eq_true rfl) wcd_652 win_200 wml_653 wim_654 wse_655 ⟨by decide, by decide, pd_X6_thrown⟩ (fun x hx => by cases hx) (fun v376 => ?_)
        refine I_iload 1 381 dL_law_379 rfl rfl ?_
        refine I_icmp_eq 386 384 dL_law_381 rfl rfl (fun _ => ?_) (fun _ => ?_)
        · refine I_iload 1 388 dL_law_386 rfl rfl ?_
          refine I_if_ne 403 391 dL_law_388 rfl rfl (fun _ => ?_) (fun _ => ?_)
          · refine I_aload_n 5 392 dL_law_391 rfl rfl rfl ?_
            refine I_iconst (0 : Int32) 393 dL_law_392 rfl (by decide) ?_
            refine I_lald 394 dL_law_393 rfl (fun v393 => ?_)
            refine I_iload 0 396 dL_law_394 rfl rfl ?_
            refine I_i2l 397 dL_law_396 rfl ?_
            refine I_lcmp 398 dL_law_397 rfl ?_
            refine I_if_eq 403 401 dL_law_398 rfl rfl (fun _ => ?_) (fun _ => ?_)
            · refine I_sub [(0, .ref (gb g)), (1, .ref x1), (2, .ref x2), (3, .ref x3), (4, .int x4)] [2, 3, 4, 5, 6] rfl ?_
              exact I_L_law_b403 hst x1 x2 x3 x4 _ ih
            · refine I_iconst (0 : Int32) 402 dL_law_401 rfl (by decide) ?_
              exact I_zret dL_law_402 rfl
          · refine I_sub [(0, .ref (gb g)), (1, .ref x1), (2, .ref x2), (3, .ref x3), (4, .int x4)] [2, 3, 4, 5, 6] rfl ?_
            exact I_L_law_b403 hst x1 x2 x3 x4 _ ih
        · refine I_iconst (0 : Int32) 385 dL_law_384 rfl (by decide) ?_
          exact I_zret dL_law_385 rfl
      refine I_case (fun e6 => ?_) (fun e6 => ?_)
      · refine I_tableIn 406 dL_law_40 (by rw [e6]; decide) (by rw [e6]; decide) (by rw [e6]; rfl) rfl ?_
        refine I_aload_n 1 407 dL_law_406 rfl rfl rfl ?_
        refine I_aload_n 0 408 dL_law_407 rfl rfl rfl ?_
        refine I_iload 4 410 dL_law_408 rfl rfl ?_
        refine I_iconst (1 : Int32) 411 dL_law_410 rfl (by decide) ?_
        refine I_iadd 412 dL_law_411 rfl ?_
        refine I_sld 413 dL_law_412 rfl (fun v412 => ?_)
        refine I_aload_n 3 414 dL_law_413 rfl rfl rfl ?_
        refine I_callSiX (As := [.ref x1, .int v412, .ref x3]) (rest := []) 417 (C_L_cancel hst x1 v412 x3) dL_law_414 rfl rfl (by decide) (Nat.le_of_ble_eq_true rfl) wcd_679 win_645 wml_680 wst_681 ⟨by decide, by decide, pd_L_cancel⟩ (fun x hx => by cases hx) (fun v414 => ?_)
        refine I_istore 419 [(5, .int v414), (0, .ref (gb g)), (1, .ref x1), (2, .ref x2), (3, .ref x3), (4, .int x4)] dL_law_417 rfl (by decide) rfl ?_
        refine I_aload_n 3 420 dL_law_419 rfl rfl rfl ?_
        refine I_aload_n 1 421 dL_law_420 rfl rfl rfl ?_
        refine I_iload 5 423 dL_law_421 rfl rfl ?_
        refine I_iconst (1 : Int32) 424 dL_law_423 rfl (by decide) ?_
        refine I_iadd 425 dL_law_424 rfl ?_
        refine I_sld 426 dL_law_425 rfl (fun v425 => ?_)
        refine I_callVi (As := [.int v425]) (rest := []) 429 (C_X6_cancel hst x2 v425) dL_law_426 rfl cl7 rfl (by decide) (Nat.le_of_ble_eq_true rfl) wcd_682 win_200 wml_683 wim_684 wse_685 ⟨by decide, by decide, pd_X6_cancel⟩ (fun x hx => by cases hx) (fun v426 => ?_)
        refine I_istore 431 [(6, .int v426), (5, .int v414), (0, .ref (gb g)), (1, .ref x1), (2, .ref x2), (3, .ref x3), (4, .int x4)] dL_law_429 rfl (by decide) rfl ?_
        refine I_aload_n 4 432 dL_law_431 rfl rfl rfl ?_
        refine I_callVi (As := []) (rest := []) 435 (C_X6_thrown hst x2) dL_law_432 rfl cl7 rfl (by decide) (Nat.le_of_ble_eq_true rfl) wcd_652 win_200 wml_653 wim_654 wse_655 ⟨by decide, by decide, pd_X6_thrown⟩ (fun x hx => by cases hx) (fun v432 => ?_)
        refine I_iload 1 437 dL_law_435 rfl rfl ?_
        refine I_icmp_eq 442 440 dL_law_437 rfl rfl (fun _ => ?_) (fun _ => ?_)
        · refine I_iload 1 444 dL_law_442 rfl rfl ?_
          refine I_if_ne 459 447 dL_law_444 rfl rfl (fun _ => ?_) (fun _ => ?_)
          · refine I_aload_n 5 448 dL_law_447 rfl rfl rfl ?_
            refine I_iconst (0 : Int32) 449 dL_law_448 rfl (by decide) ?_
            refine I_lald 450 dL_law_449 rfl (fun v449 => ?_)
            refine I_iload 0 452 dL_law_450 rfl rfl ?_
            refine I_i2l 453 dL_law_452 rfl ?_
            refine I_lcmp 454 dL_law_453 rfl ?_
            refine I_if_eq 459 457 dL_law_454 rfl rfl (fun _ => ?_) (fun _ => ?_)
            · refine I_sub [(0, .ref (gb g)), (1, .ref x1), (2, .ref x2), (3, .ref x3), (4, .int x4)] [2, 3, 4, 5, 6] rfl ?_
              exact I_L_law_b459 hst x1 x2 x3 x4 _ ih
            · refine I_iconst (0 : Int32) 458 dL_law_457 rfl (by decide) ?_
              exact I_zret dL_law_458 rfl
          · refine I_sub [(0, .ref (gb g)), (1, .ref x1), (2, .ref x2), (3, .ref x3), (4, .int x4)] [2, 3, 4, 5, 6] rfl ?_
            exact I_L_law_b459 hst x1 x2 x3 x4 _ ih
        · refine I_iconst (0 : Int32) 441 dL_law_440 rfl (by decide) ?_
          exact I_zret dL_law_441 rfl
      refine I_case (fun e7 => ?_) (fun e7 => ?_)
      · refine I_tableIn 462 dL_law_40 (by rw [e7]; decide) (by rw [e7]; decide) (by rw [e7]; rfl) rfl ?_
        refine I_aload_n 1 463 dL_law_462 rfl rfl rfl ?_
        refine I_aload_n 0 464 dL_law_463 rfl rfl rfl ?_
        refine I_iload 4 466 dL_law_464 rfl rfl ?_
        refine I_iconst (1 : Int32) 467 dL_law_466 rfl (by decide) ?_
        refine I_iadd 468 dL_law_467 rfl ?_
        refine I_sld 469 dL_law_468 rfl (fun v468 => ?_)
        refine I_aload_n 0 470 dL_law_469 rfl rfl rfl ?_
        refine I_iload 4 472 dL_law_470 rfl rfl ?_
        refine I_iconst (2 : Int32) 473 dL_law_472 rfl (by decide) ?_
        refine I_iadd 474 dL_law_473 rfl ?_
        refine I_sld 475 dL_law_474 rfl (fun v474 => ?_)
        refine I_aload_n 3 476 dL_law_475 rfl rfl rfl ?_
        refine I_callSiX (As := [.ref x1, .int v468, .int v474, .ref x3]) (rest := []) 479 (C_L_empty hst x1 v468 v474 x3) dL_law_476 rfl rfl (by decide) (Nat.le_of_ble_eq_true rfl) wcd_686 win_645 wml_687 wst_688 ⟨by decide, by decide, pd_L_empty⟩ (fun x hx => by cases hx) (fun v476 => ?_)
        refine I_istore 481 [(5, .int v476), (0, .ref (gb g)), (1, .ref x1), (2, .ref x2), (3, .ref x3), (4, .int x4)] dL_law_479 rfl (by decide) rfl ?_
        refine I_aload_n 3 482 dL_law_481 rfl rfl rfl ?_
        refine I_aload_n 1 483 dL_law_482 rfl rfl rfl ?_
        refine I_iload 5 485 dL_law_483 rfl rfl ?_
        refine I_iconst (1 : Int32) 486 dL_law_485 rfl (by decide) ?_
        refine I_iadd 487 dL_law_486 rfl ?_
        refine I_sld 488 dL_law_487 rfl (fun v487 => ?_)
        refine I_aload_n 1 489 dL_law_488 rfl rfl rfl ?_
        refine I_iload 5 491 dL_law_489 rfl rfl ?_
        refine I_iconst (2 : Int32) 492 dL_law_491 rfl (by decide) ?_
        refine I_iadd 493 dL_law_492 rfl ?_
        refine I_sld 494 dL_law_493 rfl (fun v493 => ?_)
        refine I_callVi (As := [.int v487, .int v493]) (rest := []) 497 (C_X6_empty hst x2 v487 v493) dL_law_494 rfl cl7 rfl (by decide) (Nat.le_of_ble_eq_true rfl) wcd_689 win_200 wml_690 wim_691 wse_692 ⟨by decide, by decide, pd_X6_empty⟩ (fun x hx => by cases hx) (fun v494 => ?_)
        refine I_istore 499 [(6, .int v494), (5, .int v476), (0, .ref (gb g)), (1, .ref x1), (2, .ref x2), (3, .ref x3), (4, .int x4)] dL_law_497 rfl (by decide) rfl ?_
        refine I_aload_n 4 500 dL_law_499 rfl rfl rfl ?_
        refine I_callVi (As := []) (rest := []) 503 (C_X6_thrown hst x2) dL_law_500 rfl cl7 rfl (by decide) (Nat.le_of_ble_eq_true rfl) wcd_652 win_200 wml_653 wim_654 wse_655 ⟨by decide, by decide, pd_X6_thrown⟩ (fun x hx => by cases hx) (fun v500 => ?_)
        refine I_iload 1 505 dL_law_503 rfl rfl ?_
        refine I_icmp_eq 510 508 dL_law_505 rfl rfl (fun _ => ?_) (fun _ => ?_)
        · refine I_iload 1 512 dL_law_510 rfl rfl ?_
          refine I_if_ne 534 515 dL_law_512 rfl rfl (fun _ => ?_) (fun _ => ?_)
          · refine I_aload_n 5 516 dL_law_515 rfl rfl rfl ?_
            refine I_iconst (0 : Int32) 517 dL_law_516 rfl (by decide) ?_
            refine I_lald 518 dL_law_517 rfl (fun v517 => ?_)
            refine I_iload 0 520 dL_law_518 rfl rfl ?_
            refine I_if_eq 527 523 dL_law_520 rfl rfl (fun _ => ?_) (fun _ => ?_)
            · refine I_lconst (0 : Int64) 528 dL_law_527 rfl (by decide) ?_
              refine I_sub [(0, .ref (gb g)), (1, .ref x1), (2, .ref x2), (3, .ref x3), (4, .int x4)] [2, 3, 4, 5, 6] rfl ?_
              exact I_L_law_b528 hst x1 x2 x3 x4 (0 : Int64) v517 _ ih
            · refine I_lconst (1 : Int64) 524 dL_law_523 rfl (by decide) ?_
              refine I_goto 528 dL_law_524 rfl ?_
              refine I_sub [(0, .ref (gb g)), (1, .ref x1), (2, .ref x2), (3, .ref x3), (4, .int x4)] [2, 3, 4, 5, 6] rfl ?_
              exact I_L_law_b528 hst x1 x2 x3 x4 (1 : Int64) v517 _ ih
          · refine I_sub [(0, .ref (gb g)), (1, .ref x1), (2, .ref x2), (3, .ref x3), (4, .int x4)] [2, 3, 4, 5, 6] rfl ?_
            exact I_L_law_b534 hst x1 x2 x3 x4 _ ih
        · refine I_iconst (0 : Int32) 509 dL_law_508 rfl (by decide) ?_
          exact I_zret dL_law_509 rfl
      refine I_case (fun e8 => ?_) (fun e8 => ?_)
      · refine I_tableIn 537 dL_law_40 (by rw [e8]; decide) (by rw [e8]; decide) (by rw [e8]; rfl) rfl ?_
        refine I_aload_n 1 538 dL_law_537 rfl rfl rfl ?_
        refine I_aload_n 0 539 dL_law_538 rfl rfl rfl ?_
        refine I_iload 4 541 dL_law_539 rfl rfl ?_
        refine I_iconst (1 : Int32) 542 dL_law_541 rfl (by decide) ?_
        refine I_iadd 543 dL_law_542 rfl ?_
        refine I_sld 544 dL_law_543 rfl (fun v543 => ?_)
        refine I_aload_n 0 545 dL_law_544 rfl rfl rfl ?_
        refine I_iload 4 547 dL_law_545 rfl rfl ?_
        refine I_iconst (2 : Int32) 548 dL_law_547 rfl (by decide) ?_
        refine I_iadd 549 dL_law_548 rfl ?_
        refine I_sld 550 dL_law_549 rfl (fun v549 => ?_)
        refine I_aload_n 3 551 dL_law_550 rfl rfl rfl ?_
        refine I_callSiX (As := [.ref x1, .int v543, .int v549, .ref x3]) (rest := []) 554 (C_L_of hst x1 v543 v549 x3) dL_law_551 rfl rfl (by decide) (Nat.le_of_ble_eq_true rfl) wcd_693 win_645 wml_694 wst_695 ⟨by decide, by decide, pd_L_of⟩ (fun x hx => by cases hx) (fun v551 => ?_)
        refine I_istore 556 [(5, .int v551), (0, .ref (gb g)), (1, .ref x1), (2, .ref x2), (3, .ref x3), (4, .int x4)] dL_law_554 rfl (by decide) rfl ?_
        refine I_aload_n 3 557 dL_law_556 rfl rfl rfl ?_
        refine I_aload_n 1 558 dL_law_557 rfl rfl rfl ?_
        refine I_iload 5 560 dL_law_558 rfl rfl ?_
        refine I_iconst (1 : Int32) 561 dL_law_560 rfl (by decide) ?_
        refine I_iadd 562 dL_law_561 rfl ?_
        refine I_sld 563 dL_law_562 rfl (fun v562 => ?_)
        refine I_aload_n 1 564 dL_law_563 rfl rfl rfl ?_
        refine I_iload 5 566 dL_law_564 rfl rfl ?_
        refine I_iconst (2 : Int32) 567 dL_law_566 rfl (by decide) ?_
        refine I_iadd 568 dL_law_567 rfl ?_
        refine I_sld 569 dL_law_568 rfl (fun v568 => ?_)
        refine I_callVi (As := [.int v562, .int v568]) (rest := []) 572 (C_X6_of hst x2 v562 v568) dL_law_569 rfl cl7 rfl (by decide) (Nat.le_of_ble_eq_true rfl) wcd_696 win_200 wml_697 wim_698 wse_699 ⟨by decide, by decide, pd_X6_of⟩ (fun x hx => by cases hx) (fun v569 => ?_)
        refine I_istore 574 [(6, .int v569), (5, .int v551), (0, .ref (gb g)), (1, .ref x1), (2, .ref x2), (3, .ref x3), (4, .int x4)] dL_law_572 rfl (by decide) rfl ?_
        refine I_aload_n 4 575 dL_law_574 rfl rfl rfl ?_
        refine I_callVi (As := []) (rest := []) 578 (C_X6_thrown hst x2) dL_law_575 rfl cl7 rfl (by decide) (Nat.le_of_ble_eq_true rfl) wcd_652 win_200 wml_653 wim_654 wse_655 ⟨by decide, by decide, pd_X6_thrown⟩ (fun x hx => by cases hx) (fun v575 => ?_)
        refine I_iload 1 580 dL_law_578 rfl rfl ?_
        refine I_icmp_eq 585 583 dL_law_580 rfl rfl (fun _ => ?_) (fun _ => ?_)
        · refine I_iload 1 587 dL_law_585 rfl rfl ?_
          refine I_if_ne 602 590 dL_law_587 rfl rfl (fun _ => ?_) (fun _ => ?_)
          · refine I_aload_n 5 591 dL_law_590 rfl rfl rfl ?_
            refine I_iconst (0 : Int32) 592 dL_law_591 rfl (by decide) ?_
            refine I_lald 593 dL_law_592 rfl (fun v592 => ?_)
            refine I_iload 0 595 dL_law_593 rfl rfl ?_
            refine I_i2l 596 dL_law_595 rfl ?_
            refine I_lcmp 597 dL_law_596 rfl ?_
            refine I_if_eq 602 600 dL_law_597 rfl rfl (fun _ => ?_) (fun _ => ?_)
            · refine I_sub [(0, .ref (gb g)), (1, .ref x1), (2, .ref x2), (3, .ref x3), (4, .int x4)] [2, 3, 4, 5, 6] rfl ?_
              exact I_L_law_b602 hst x1 x2 x3 x4 _ ih
            · refine I_iconst (0 : Int32) 601 dL_law_600 rfl (by decide) ?_
              exact I_zret dL_law_601 rfl
          · refine I_sub [(0, .ref (gb g)), (1, .ref x1), (2, .ref x2), (3, .ref x3), (4, .int x4)] [2, 3, 4, 5, 6] rfl ?_
            exact I_L_law_b602 hst x1 x2 x3 x4 _ ih
        · refine I_iconst (0 : Int32) 584 dL_law_583 rfl (by decide) ?_
          exact I_zret dL_law_584 rfl
      refine I_case (fun e9 => ?_) (fun e9 => ?_)
      · refine I_tableIn 605 dL_law_40 (by rw [e9]; decide) (by rw [e9]; decide) (by rw [e9]; rfl) rfl ?_
        refine I_aload_n 1 606 dL_law_605 rfl rfl rfl ?_
        refine I_aload_n 0 607 dL_law_606 rfl rfl rfl ?_
        refine I_iload 4 609 dL_law_607 rfl rfl ?_
        refine I_iconst (1 : Int32) 610 dL_law_609 rfl (by decide) ?_
        refine I_iadd 611 dL_law_610 rfl ?_
        refine I_sld 612 dL_law_611 rfl (fun v611 => ?_)
        refine I_aload_n 0 613 dL_law_612 rfl rfl rfl ?_
        refine I_iload 4 615 dL_law_613 rfl rfl ?_
        refine I_iconst (2 : Int32) 616 dL_law_615 rfl (by decide) ?_
        refine I_iadd 617 dL_law_616 rfl ?_
        refine I_sld 618 dL_law_617 rfl (fun v617 => ?_)
        refine I_aload_n 0 619 dL_law_618 rfl rfl rfl ?_
        refine I_iload 4 621 dL_law_619 rfl rfl ?_
        refine I_iconst (3 : Int32) 622 dL_law_621 rfl (by decide) ?_
        refine I_iadd 623 dL_law_622 rfl ?_
        refine I_sld 624 dL_law_623 rfl (fun v623 => ?_)
        refine I_aload_n 3 625 dL_law_624 rfl rfl rfl ?_
        refine I_callSiX (As := [.ref x1, .int v611, .int v617, .int v623, .ref x3]) (rest := []) 628 (C_L_leg hst x1 v611 v617 v623 x3) dL_law_625 rfl rfl (by decide) (Nat.le_of_ble_eq_true rfl) wcd_700 win_645 wml_701 wst_702 ⟨by decide, by decide, pd_L_leg⟩ (fun x hx => by cases hx) (fun v625 => ?_)
        refine I_istore 630 [(5, .int v625), (0, .ref (gb g)), (1, .ref x1), (2, .ref x2), (3, .ref x3), (4, .int x4)] dL_law_628 rfl (by decide) rfl ?_
        refine I_aload_n 3 631 dL_law_630 rfl rfl rfl ?_
        refine I_aload_n 1 632 dL_law_631 rfl rfl rfl ?_
        refine I_iload 5 634 dL_law_632 rfl rfl ?_
        refine I_iconst (1 : Int32) 635 dL_law_634 rfl (by decide) ?_
        refine I_iadd 636 dL_law_635 rfl ?_
        refine I_sld 637 dL_law_636 rfl (fun v636 => ?_)
        refine I_aload_n 1 638 dL_law_637 rfl rfl rfl ?_
        refine I_iload 5 640 dL_law_638 rfl rfl ?_
        refine I_iconst (2 : Int32) 641 dL_law_640 rfl (by decide) ?_
        refine I_iadd 642 dL_law_641 rfl ?_
        refine I_sld 643 dL_law_642 rfl (fun v642 => ?_)
        refine I_aload_n 1 644 dL_law_643 rfl rfl rfl ?_
        refine I_iload 5 646 dL_law_644 rfl rfl ?_
        refine I_iconst (3 : Int32) 647 dL_law_646 rfl (by decide) ?_
        refine I_iadd 648 dL_law_647 rfl ?_
        refine I_sld 649 dL_law_648 rfl (fun v648 => ?_)
        refine I_callVi (As := [.int v636, .int v642, .int v648]) (rest := []) 652 (C_X6_leg hst x2 v636 v642 v648) dL_law_649 rfl cl7 rfl (by decide) (Nat.le_of_ble_eq_true rfl) wcd_703 win_200 wml_704 wim_705 wse_706 ⟨by decide, by decide, pd_X6_leg⟩ (fun x hx => by cases hx) (fun v649 => ?_)
        refine I_istore 654 [(6, .int v649), (5, .int v625), (0, .ref (gb g)), (1, .ref x1), (2, .ref x2), (3, .ref x3), (4, .int x4)] dL_law_652 rfl (by decide) rfl ?_
        refine I_aload_n 4 655 dL_law_654 rfl rfl rfl ?_
        refine I_callVi (As := []) (rest := []) 658 (C_X6_thrown hst x2) dL_law_655 rfl cl7 rfl (by decide) (Nat.le_of_ble_eq_true rfl) wcd_652 win_200 wml_653 wim_654 wse_655 ⟨by decide, by decide, pd_X6_thrown⟩ (fun x hx => by cases hx) (fun v655 => ?_)
        refine I_iload 1 660 dL_law_658 rfl rfl ?_
        refine I_icmp_eq 665 663 dL_law_660 rfl rfl (fun _ => ?_) (fun _ => ?_)
        · refine I_iload 1 667 dL_law_665 rfl rfl ?_
          refine I_if_ne 682 670 dL_law_667 rfl rfl (fun _ => ?_) (fun _ => ?_)
          · refine I_aload_n 5 671 dL_law_670 rfl rfl rfl ?_
            refine I_iconst (0 : Int32) 672 dL_law_671 rfl (by decide) ?_
            refine I_lald 673 dL_law_672 rfl (fun v672 => ?_)
            refine I_iload 0 675 dL_law_673 rfl rfl ?_
            refine I_i2l 676 dL_law_675 rfl ?_
            refine I_lcmp 677 dL_law_676 rfl ?_
            refine I_if_eq 682 680 dL_law_677 rfl rfl (fun _ => ?_) (fun _ => ?_)
            · refine I_sub [(0, .ref (gb g)), (1, .ref x1), (2, .ref x2), (3, .ref x3), (4, .int x4)] [2, 3, 4, 5, 6] rfl ?_
              exact I_L_law_b682 hst x1 x2 x3 x4 _ ih
            · refine I_iconst (0 : Int32) 681 dL_law_680 rfl (by decide) ?_
              exact I_zret dL_law_681 rfl
          · refine I_sub [(0, .ref (gb g)), (1, .ref x1), (2, .ref x2), (3, .ref x3), (4, .int x4)] [2, 3, 4, 5, 6] rfl ?_
            exact I_L_law_b682 hst x1 x2 x3 x4 _ ih
        · refine I_iconst (0 : Int32) 664 dL_law_663 rfl (by decide) ?_
          exact I_zret dL_law_664 rfl
      refine I_case (fun e10 => ?_) (fun e10 => ?_)
      · refine I_tableIn 685 dL_law_40 (by rw [e10]; decide) (by rw [e10]; decide) (by rw [e10]; rfl) rfl ?_
        refine I_aload_n 1 686 dL_law_685 rfl rfl rfl ?_
        refine I_aload_n 0 687 dL_law_686 rfl rfl rfl ?_
        refine I_iload 4 689 dL_law_687 rfl rfl ?_
        refine I_iconst (1 : Int32) 690 dL_law_689 rfl (by decide) ?_
        refine I_iadd 691 dL_law_690 rfl ?_
        refine I_sld 692 dL_law_691 rfl (fun v691 => ?_)
        refine I_aload_n 0 693 dL_law_692 rfl rfl rfl ?_
        refine I_iload 4 695 dL_law_693 rfl rfl ?_
        refine I_iconst (2 : Int32) 696 dL_law_695 rfl (by decide) ?_
        refine I_iadd 697 dL_law_696 rfl ?_
        refine I_sld 698 dL_law_697 rfl (fun v697 => ?_)
        refine I_aload_n 3 699 dL_law_698 rfl rfl rfl ?_
        refine I_callSiX (As := [.ref x1, .int v691, .int v697, .ref x3]) (rest := []) 702 (C_L_load hst x1 v691 v697 x3) dL_law_699 rfl rfl (by decide) (Nat.le_of_ble_eq_true rfl) wcd_707 win_645 wml_708 wst_709 ⟨by decide, by decide, pd_L_load⟩ (fun x hx => by cases hx) (fun v699 => ?_)
        refine I_istore 704 [(5, .int v699), (0, .ref (gb g)), (1, .ref x1), (2, .ref x2), (3, .ref x3), (4, .int x4)] dL_law_702 rfl (by decide) rfl ?_
        refine I_aload_n 3 705 dL_law_704 rfl rfl rfl ?_
        refine I_aload_n 1 706 dL_law_705 rfl rfl rfl ?_
        refine I_iload 5 708 dL_law_706 rfl rfl ?_
        refine I_iconst (1 : Int32) 709 dL_law_708 rfl (by decide) ?_
        refine I_iadd 710 dL_law_709 rfl ?_
        refine I_sld 711 dL_law_710 rfl (fun v710 => ?_)
        refine I_aload_n 1 712 dL_law_711 rfl rfl rfl ?_
        refine I_iload 5 714 dL_law_712 rfl rfl ?_
        refine I_iconst (2 : Int32) 715 dL_law_714 rfl (by decide) ?_
        refine I_iadd 716 dL_law_715 rfl ?_
        refine I_sld 717 dL_law_716 rfl (fun v716 => ?_)
        refine I_callVi (As := [.int v710, .int v716]) (rest := []) 720 (C_X6_load hst x2 v710 v716) dL_law_717 rfl cl7 rfl (by decide) (Nat.le_of_ble_eq_true rfl) wcd_710 win_200 wml_711 wim_712 wse_713 ⟨by decide, by decide, pd_X6_load⟩ (fun x hx => by cases hx) (fun v717 => ?_)
        refine I_istore 722 [(6, .int v717), (5, .int v699), (0, .ref (gb g)), (1, .ref x1), (2, .ref x2), (3, .ref x3), (4, .int x4)] dL_law_720 rfl (by decide) rfl ?_
        refine I_aload_n 4 723 dL_law_722 rfl rfl rfl ?_
        refine I_callVi (As := []) (rest := []) 726 (C_X6_thrown hst x2) dL_law_723 rfl cl7 rfl (by decide) (Nat.le_of_ble_eq_true rfl) wcd_652 win_200 wml_653 wim_654 wse_655 ⟨by decide, by decide, pd_X6_thrown⟩ (fun x hx => by cases hx) (fun v723 => ?_)
        refine I_iload 1 728 dL_law_726 rfl rfl ?_
        refine I_icmp_eq 733 731 dL_law_728 rfl rfl (fun _ => ?_) (fun _ => ?_)
        · refine I_iload 1 735 dL_law_733 rfl rfl ?_
          refine I_if_ne 750 738 dL_law_735 rfl rfl (fun _ => ?_) (fun _ => ?_)
          · refine I_aload_n 5 739 dL_law_738 rfl rfl rfl ?_
            refine I_iconst (0 : Int32) 740 dL_law_739 rfl (by decide) ?_
            refine I_lald 741 dL_law_740 rfl (fun v740 => ?_)
            refine I_iload 0 743 dL_law_741 rfl rfl ?_
            refine I_i2l 744 dL_law_743 rfl ?_
            refine I_lcmp 745 dL_law_744 rfl ?_
            refine I_if_eq 750 748 dL_law_745 rfl rfl (fun _ => ?_) (fun _ => ?_)
            · refine I_sub [(0, .ref (gb g)), (1, .ref x1), (2, .ref x2), (3, .ref x3), (4, .int x4)] [2, 3, 4, 5, 6] rfl ?_
              exact I_L_law_b750 hst x1 x2 x3 x4 _ ih
            · refine I_iconst (0 : Int32) 749 dL_law_748 rfl (by decide) ?_
              exact I_zret dL_law_749 rfl
          · refine I_sub [(0, .ref (gb g)), (1, .ref x1), (2, .ref x2), (3, .ref x3), (4, .int x4)] [2, 3, 4, 5, 6] rfl ?_
            exact I_L_law_b750 hst x1 x2 x3 x4 _ ih
        · refine I_iconst (0 : Int32) 732 dL_law_731 rfl (by decide) ?_
          exact I_zret dL_law_732 rfl
      refine I_case (fun e11 => ?_) (fun e11 => ?_)
      · refine I_tableIn 753 dL_law_40 (by rw [e11]; decide) (by rw [e11]; decide) (by rw [e11]; rfl) rfl ?_
        refine I_aload_n 1 754 dL_law_753 rfl rfl rfl ?_
        refine I_aload_n 0 755 dL_law_754 rfl rfl rfl ?_
        refine I_iload 4 757 dL_law_755 rfl rfl ?_
        refine I_iconst (1 : Int32) 758 dL_law_757 rfl (by decide) ?_
        refine I_iadd 759 dL_law_758 rfl ?_
        refine I_sld 760 dL_law_759 rfl (fun v759 => ?_)
        refine I_aload_n 3 761 dL_law_760 rfl rfl rfl ?_
        refine I_callSiX (As := [.ref x1, .int v759, .ref x3]) (rest := []) 764 (C_L_where hst x1 v759 x3) dL_law_761 rfl rfl (by decide) (Nat.le_of_ble_eq_true rfl) wcd_714 win_645 wml_715 wst_716 ⟨by decide, by decide, pd_L_where⟩ (fun x hx => by cases hx) (fun v761 => ?_)
        refine I_istore 766 [(5, .int v761), (0, .ref (gb g)), (1, .ref x1), (2, .ref x2), (3, .ref x3), (4, .int x4)] dL_law_764 rfl (by decide) rfl ?_
        refine I_aload_n 3 767 dL_law_766 rfl rfl rfl ?_
        refine I_aload_n 1 768 dL_law_767 rfl rfl rfl ?_
        refine I_iload 5 770 dL_law_768 rfl rfl ?_
        refine I_iconst (1 : Int32) 771 dL_law_770 rfl (by decide) ?_
        refine I_iadd 772 dL_law_771 rfl ?_
        refine I_sld 773 dL_law_772 rfl (fun v772 => ?_)
        refine I_callVi (As := [.int v772]) (rest := []) 776 (C_X6_where hst x2 v772) dL_law_773 rfl cl7 rfl (by decide) (Nat.le_of_ble_eq_true rfl) wcd_717 win_200 wml_718 wim_719 wse_720 ⟨by decide, by decide, pd_X6_where⟩ (fun x hx => by cases hx) (fun v773 => ?_)
        refine I_istore 778 [(6, .int v773), (5, .int v761), (0, .ref (gb g)), (1, .ref x1), (2, .ref x2), (3, .ref x3), (4, .int x4)] dL_law_776 rfl (by decide) rfl ?_
        refine I_aload_n 4 779 dL_law_778 rfl rfl rfl ?_
        refine I_callVi (As := []) (rest := []) 782 (C_X6_thrown hst x2) dL_law_779 rfl cl7 rfl (by decide) (Nat.le_of_ble_eq_true rfl) wcd_652 win_200 wml_653 wim_654 wse_655 ⟨by decide, by decide, pd_X6_thrown⟩ (fun x hx => by cases hx) (fun v779 => ?_)
        refine I_iload 1 784 dL_law_782 rfl rfl ?_
        refine I_icmp_eq 789 787 dL_law_784 rfl rfl (fun _ => ?_) (fun _ => ?_)
        · refine I_iload 1 791 dL_law_789 rfl rfl ?_
          refine I_if_ne 806 794 dL_law_791 rfl rfl (fun _ => ?_) (fun _ => ?_)
          · refine I_aload_n 5 795 dL_law_794 rfl rfl rfl ?_
            refine I_iconst (0 : Int32) 796 dL_law_795 rfl (by decide) ?_
            refine I_lald 797 dL_law_796 rfl (fun v796 => ?_)
            refine I_iload 0 799 dL_law_797 rfl rfl ?_
            refine I_i2l 800 dL_law_799 rfl ?_
            refine I_lcmp 801 dL_law_800 rfl ?_
            refine I_if_eq 806 804 dL_law_801 rfl rfl (fun _ => ?_) (fun _ => ?_)
            · refine I_sub [(0, .ref (gb g)), (1, .ref x1), (2, .ref x2), (3, .ref x3), (4, .int x4)] [2, 3, 4, 5, 6] rfl ?_
              exact I_L_law_b806 hst x1 x2 x3 x4 _ ih
            · refine I_iconst (0 : Int32) 805 dL_law_804 rfl (by decide) ?_
              exact I_zret dL_law_805 rfl
          · refine I_sub [(0, .ref (gb g)), (1, .ref x1), (2, .ref x2), (3, .ref x3), (4, .int x4)] [2, 3, 4, 5, 6] rfl ?_
            exact I_L_law_b806 hst x1 x2 x3 x4 _ ih
        · refine I_iconst (0 : Int32) 788 dL_law_787 rfl (by decide) ?_
          exact I_zret dL_law_788 rfl
      refine I_case (fun e12 => ?_) (fun e12 => ?_)
      · refine I_tableIn 809 dL_law_40 (by rw [e12]; decide) (by rw [e12]; decide) (by rw [e12]; rfl) rfl ?_
        refine I_aload_n 1 810 dL_law_809 rfl rfl rfl ?_
        refine I_aload_n 0 811 dL_law_810 rfl rfl rfl ?_
        refine I_iload 4 813 dL_law_811 rfl rfl ?_
        refine I_iconst (1 : Int32) 814 dL_law_813 rfl (by decide) ?_
        refine I_iadd 815 dL_law_814 rfl ?_
        refine I_sld 816 dL_law_815 rfl (fun v815 => ?_)
        refine I_aload_n 3 817 dL_law_816 rfl rfl rfl ?_
        refine I_callSiX (As := [.ref x1, .int v815, .ref x3]) (rest := []) 820 (C_L_mark hst x1 v815 x3) dL_law_817 rfl rfl (by decide) (Nat.le_of_ble_eq_true rfl) wcd_721 win_645 wml_722 wst_723 ⟨by decide, by decide, pd_L_mark⟩ (fun x hx => by cases hx) (fun v817 => ?_)
        refine I_istore 822 [(5, .int v817), (0, .ref (gb g)), (1, .ref x1), (2, .ref x2), (3, .ref x3), (4, .int x4)] dL_law_820 rfl (by decide) rfl ?_
        refine I_aload_n 3 823 dL_law_822 rfl rfl rfl ?_
        refine I_aload_n 1 824 dL_law_823 rfl rfl rfl ?_
        refine I_iload 5 826 dL_law_824 rfl rfl ?_
        refine I_iconst (1 : Int32) 827 dL_law_826 rfl (by decide) ?_
        refine I_iadd 828 dL_law_827 rfl ?_
        refine I_sld 829 dL_law_828 rfl (fun v828 => ?_)
        refine I_callVi (As := [.int v828]) (rest := []) 832 (C_X6_mark hst x2 v828) dL_law_829 rfl cl7 rfl (by decide) (Nat.le_of_ble_eq_true rfl) wcd_724 win_200 wml_725 wim_726 wse_727 ⟨by decide, by decide, pd_X6_mark⟩ (fun x hx => by cases hx) (fun v829 => ?_)
        refine I_istore 834 [(6, .int v829), (5, .int v817), (0, .ref (gb g)), (1, .ref x1), (2, .ref x2), (3, .ref x3), (4, .int x4)] dL_law_832 rfl (by decide) rfl ?_
        refine I_aload_n 4 835 dL_law_834 rfl rfl rfl ?_
        refine I_callVi (As := []) (rest := []) 838 (C_X6_thrown hst x2) dL_law_835 rfl cl7 rfl (by decide) (Nat.le_of_ble_eq_true rfl) wcd_652 win_200 wml_653 wim_654 wse_655 ⟨by decide, by decide, pd_X6_thrown⟩ (fun x hx => by cases hx) (fun v835 => ?_)
        refine I_iload 1 840 dL_law_838 rfl rfl ?_
        refine I_icmp_eq 845 843 dL_law_840 rfl rfl (fun _ => ?_) (fun _ => ?_)
        · refine I_iload 1 847 dL_law_845 rfl rfl ?_
          refine I_if_ne 862 850 dL_law_847 rfl rfl (fun _ => ?_) (fun _ => ?_)
          · refine I_aload_n 5 851 dL_law_850 rfl rfl rfl ?_
            refine I_iconst (0 : Int32) 852 dL_law_851 rfl (by decide) ?_
            refine I_lald 853 dL_law_852 rfl (fun v852 => ?_)
            refine I_iload 0 855 dL_law_853 rfl rfl ?_
            refine I_i2l 856 dL_law_855 rfl ?_
            refine I_lcmp 857 dL_law_856 rfl ?_
            refine I_if_eq 862 860 dL_law_857 rfl rfl (fun _ => ?_) (fun _ => ?_)
            · refine I_sub [(0, .ref (gb g)), (1, .ref x1), (2, .ref x2), (3, .ref x3), (4, .int x4)] [2, 3, 4, 5, 6] rfl ?_
              exact I_L_law_b862 hst x1 x2 x3 x4 _ ih
            · refine I_iconst (0 : Int32) 861 dL_law_860 rfl (by decide) ?_
              exact I_zret dL_law_861 rfl
          · refine I_sub [(0, .ref (gb g)), (1, .ref x1), (2, .ref x2), (3, .ref x3), (4, .int x4)] [2, 3, 4, 5, 6] rfl ?_
            exact I_L_law_b862 hst x1 x2 x3 x4 _ ih
        · refine I_iconst (0 : Int32) 844 dL_law_843 rfl (by decide) ?_
          exact I_zret dL_law_844 rfl
      refine I_case (fun e13 => ?_) (fun e13 => ?_)
      · refine I_tableIn 865 dL_law_40 (by rw [e13]; decide) (by rw [e13]; decide) (by rw [e13]; rfl) rfl ?_
        refine I_aload_n 1 866 dL_law_865 rfl rfl rfl ?_
        refine I_aload_n 0 867 dL_law_866 rfl rfl rfl ?_
        refine I_iload 4 869 dL_law_867 rfl rfl ?_
        refine I_iconst (1 : Int32) 870 dL_law_869 rfl (by decide) ?_
        refine I_iadd 871 dL_law_870 rfl ?_
        refine I_sld 872 dL_law_871 rfl (fun v871 => ?_)
        refine I_callVi (As := [.int v871]) (rest := []) 875 (C_X5_carrier hst x1 v871) dL_law_872 rfl cl6 rfl (by decide) (Nat.le_of_ble_eq_true rfl) wcd_728 win_81 wml_729 wim_730 wse_731 ⟨by decide, by decide, pd_X5_carrier⟩ (fun x hx => by cases hx) (fun v872 => ?_)
        refine I_aload_n 2 876 dL_law_875 rfl rfl rfl ?_
        refine I_aload_n 0 877 dL_law_876 rfl rfl rfl ?_
        refine I_iload 4 879 dL_law_877 rfl rfl ?_
        refine I_iconst (1 : Int32) 880 dL_law_879 rfl (by decide) ?_
        refine I_iadd 881 dL_law_880 rfl ?_
        refine I_sld 882 dL_law_881 rfl (fun v881 => ?_)
        refine I_callVi (As := [.int v881]) (rest := [.int v872]) 885 (C_X6_carrier hst x2 v881) dL_law_882 rfl cl7 rfl (by decide) (Nat.le_of_ble_eq_true rfl) wcd_732 win_200 wml_733 wim_734 wse_735 ⟨by decide, by decide, pd_X6_carrier⟩ (fun x hx => by cases hx) (fun v882 => ?_)
        refine I_icmp_eq 1014 888 dL_law_885 rfl rfl (fun _ => ?_) (fun _ => ?_)
        · refine I_sub [(0, .ref (gb g)), (1, .ref x1), (2, .ref x2), (3, .ref x3), (4, .int x4)] [0, 1, 2, 3, 4] rfl ?_
          exact I_L_law_b1014 hst x1 x2 x3 x4 _ ih
        · refine I_iconst (0 : Int32) 889 dL_law_888 rfl (by decide) ?_
          exact I_zret dL_law_889 rfl
      refine I_case (fun e14 => ?_) (fun e14 => ?_)
      · refine I_tableIn 890 dL_law_40 (by rw [e14]; decide) (by rw [e14]; decide) (by rw [e14]; rfl) rfl ?_
        refine I_aload_n 1 891 dL_law_890 rfl rfl rfl ?_
        refine I_aload_n 0 892 dL_law_891 rfl rfl rfl ?_
        refine I_iload 4 894 dL_law_892 rfl rfl ?_
        refine I_iconst (1 : Int32) 895 dL_law_894 rfl (by decide) ?_
        refine I_iadd 896 dL_law_895 rfl ?_
        refine I_sld 897 dL_law_896 rfl (fun v896 => ?_)
        refine I_aload_n 0 898 dL_law_897 rfl rfl rfl ?_
        refine I_iload 4 900 dL_law_898 rfl rfl ?_
        refine I_iconst (2 : Int32) 901 dL_law_900 rfl (by decide) ?_
        refine I_iadd 902 dL_law_901 rfl ?_
        refine I_sld 903 dL_law_902 rfl (fun v902 => ?_)
        refine I_aload_n 3 904 dL_law_903 rfl rfl rfl ?_
        refine I_callSiX (As := [.ref x1, .int v896, .int v902, .ref x3]) (rest := []) 907 (C_L_share hst x1 v896 v902 x3) dL_law_904 rfl rfl (by decide) (Nat.le_of_ble_eq_true rfl) wcd_736 win_645 wml_737 wst_738 ⟨by decide, by decide, pd_L_share⟩ (fun x hx => by cases hx) (fun v904 => ?_)
        refine I_istore 909 [(5, .int v904), (0, .ref (gb g)), (1, .ref x1), (2, .ref x2), (3, .ref x3), (4, .int x4)] dL_law_907 rfl (by decide) rfl ?_
        refine I_aload_n 3 910 dL_law_909 rfl rfl rfl ?_
        refine I_aload_n 1 911 dL_law_910 rfl rfl rfl ?_
        refine I_iload 5 913 dL_law_911 rfl rfl ?_
        refine I_iconst (1 : Int32) 914 dL_law_913 rfl (by decide) ?_
        refine I_iadd 915 dL_law_914 rfl ?_
        refine I_sld 916 dL_law_915 rfl (fun v915 => ?_)
        refine I_aload_n 1 917 dL_law_916 rfl rfl rfl ?_
        refine I_iload 5 919 dL_law_917 rfl rfl ?_
        refine I_iconst (2 : Int32) 920 dL_law_919 rfl (by decide) ?_
        refine I_iadd 921 dL_law_920 rfl ?_
        refine I_sld 922 dL_law_921 rfl (fun v921 => ?_)
        refine I_callVi (As := [.int v915, .int v921]) (rest := []) 925 (C_X6_share hst x2 v915 v921) dL_law_922 rfl cl7 rfl (by decide) (Nat.le_of_ble_eq_true rfl) wcd_739 win_200 wml_740 wim_741 wse_742 ⟨by decide, by decide, pd_X6_share⟩ (fun x hx => by cases hx) (fun v922 => ?_)
        refine I_istore 927 [(6, .int v922), (5, .int v904), (0, .ref (gb g)), (1, .ref x1), (2, .ref x2), (3, .ref x3), (4, .int x4)] dL_law_925 rfl (by decide) rfl ?_
        refine I_aload_n 4 928 dL_law_927 rfl rfl rfl ?_
        refine I_callVi (As := []) (rest := []) 931 (C_X6_thrown hst x2) dL_law_928 rfl cl7 rfl (by decide) (Nat.le_of_ble_eq_true rfl) wcd_652 win_200 wml_653 wim_654 wse_655 ⟨by decide, by decide, pd_X6_thrown⟩ (fun x hx => by cases hx) (fun v928 => ?_)
        refine I_iload 1 933 dL_law_931 rfl rfl ?_
        refine I_icmp_eq 938 936 dL_law_933 rfl rfl (fun _ => ?_) (fun _ => ?_)
        · refine I_iload 1 940 dL_law_938 rfl rfl ?_
          refine I_if_ne 955 943 dL_law_940 rfl rfl (fun _ => ?_) (fun _ => ?_)
          · refine I_aload_n 5 944 dL_law_943 rfl rfl rfl ?_
            refine I_iconst (0 : Int32) 945 dL_law_944 rfl (by decide) ?_
            refine I_lald 946 dL_law_945 rfl (fun v945 => ?_)
            refine I_iload 0 948 dL_law_946 rfl rfl ?_
            refine I_i2l 949 dL_law_948 rfl ?_
            refine I_lcmp 950 dL_law_949 rfl ?_
            refine I_if_eq 955 953 dL_law_950 rfl rfl (fun _ => ?_) (fun _ => ?_)
            · refine I_sub [(0, .ref (gb g)), (1, .ref x1), (2, .ref x2), (3, .ref x3), (4, .int x4)] [2, 3, 4, 5, 6] rfl ?_
              exact I_L_law_b955 hst x1 x2 x3 x4 _ ih
            · refine I_iconst (0 : Int32) 954 dL_law_953 rfl (by decide) ?_
              exact I_zret dL_law_954 rfl
          · refine I_sub [(0, .ref (gb g)), (1, .ref x1), (2, .ref x2), (3, .ref x3), (4, .int x4)] [2, 3, 4, 5, 6] rfl ?_
            exact I_L_law_b955 hst x1 x2 x3 x4 _ ih
        · refine I_iconst (0 : Int32) 937 dL_law_936 rfl (by decide) ?_
          exact I_zret dL_law_937 rfl
      refine I_case (fun e15 => ?_) (fun e15 => ?_)
      · refine I_tableIn 958 dL_law_40 (by rw [e15]; decide) (by rw [e15]; decide) (by rw [e15]; rfl) rfl ?_
        refine I_aload_n 1 959 dL_law_958 rfl rfl rfl ?_
        refine I_aload_n 0 960 dL_law_959 rfl rfl rfl ?_
        refine I_iload 4 962 dL_law_960 rfl rfl ?_
        refine I_iconst (1 : Int32) 963 dL_law_962 rfl (by decide) ?_
        refine I_iadd 964 dL_law_963 rfl ?_
        refine I_sld 965 dL_law_964 rfl (fun v964 => ?_)
        refine I_aload_n 3 966 dL_law_965 rfl rfl rfl ?_
        refine I_callSiX (As := [.ref x1, .int v964, .ref x3]) (rest := []) 969 (C_L_count hst x1 v964 x3) dL_law_966 rfl rfl (by decide) (Nat.le_of_ble_eq_true rfl) wcd_743 win_645 wml_744 wst_745 ⟨by decide, by decide, pd_L_count⟩ (fun x hx => by cases hx) (fun v966 => ?_)
        refine I_istore 971 [(5, .int v966), (0, .ref (gb g)), (1, .ref x1), (2, .ref x2), (3, .ref x3), (4, .int x4)] dL_law_969 rfl (by decide) rfl ?_
        refine I_aload_n 3 972 dL_law_971 rfl rfl rfl ?_
        refine I_aload_n 1 973 dL_law_972 rfl rfl rfl ?_
        refine I_iload 5 975 dL_law_973 rfl rfl ?_
        refine I_iconst (1 : Int32) 976 dL_law_975 rfl (by decide) ?_
        refine I_iadd 977 dL_law_976 rfl ?_
        refine I_sld 978 dL_law_977 rfl (fun v977 => ?_)
        refine I_callVi (As := [.int v977]) (rest := []) 981 (C_X6_count hst x2 v977) dL_law_978 rfl cl7 rfl (by decide) (Nat.le_of_ble_eq_true rfl) wcd_746 win_200 wml_747 wim_748 wse_749 ⟨by decide, by decide, pd_X6_count⟩ (fun x hx => by cases hx) (fun v978 => ?_)
        refine I_istore 983 [(6, .int v978), (5, .int v966), (0, .ref (gb g)), (1, .ref x1), (2, .ref x2), (3, .ref x3), (4, .int x4)] dL_law_981 rfl (by decide) rfl ?_
        refine I_aload_n 4 984 dL_law_983 rfl rfl rfl ?_
        refine I_callVi (As := []) (rest := []) 987 (C_X6_thrown hst x2) dL_law_984 rfl cl7 rfl (by decide) (Nat.le_of_ble_eq_true rfl) wcd_652 win_200 wml_653 wim_654 wse_655 ⟨by decide, by decide, pd_X6_thrown⟩ (fun x hx => by cases hx) (fun v984 => ?_)
        refine I_iload 1 989 dL_law_987 rfl rfl ?_
        refine I_icmp_eq 994 992 dL_law_989 rfl rfl (fun _ => ?_) (fun _ => ?_)
        · refine I_iload 1 996 dL_law_994 rfl rfl ?_
          refine I_if_ne 1011 999 dL_law_996 rfl rfl (fun _ => ?_) (fun _ => ?_)
          · refine I_aload_n 5 1000 dL_law_999 rfl rfl rfl ?_
            refine I_iconst (0 : Int32) 1001 dL_law_1000 rfl (by decide) ?_
            refine I_lald 1002 dL_law_1001 rfl (fun v1001 => ?_)
            refine I_iload 0 1004 dL_law_1002 rfl rfl ?_
            refine I_i2l 1005 dL_law_1004 rfl ?_
            refine I_lcmp 1006 dL_law_1005 rfl ?_
            refine I_if_eq 1011 1009 dL_law_1006 rfl rfl (fun _ => ?_) (fun _ => ?_)
            · refine I_sub [(0, .ref (gb g)), (1, .ref x1), (2, .ref x2), (3, .ref x3), (4, .int x4)] [2, 3, 4, 5, 6] rfl ?_
              exact I_L_law_b1011 hst x1 x2 x3 x4 _ ih
            · refine I_iconst (0 : Int32) 1010 dL_law_1009 rfl (by decide) ?_
              exact I_zret dL_law_1010 rfl
          · refine I_sub [(0, .ref (gb g)), (1, .ref x1), (2, .ref x2), (3, .ref x3), (4, .int x4)] [2, 3, 4, 5, 6] rfl ?_
            exact I_L_law_b1011 hst x1 x2 x3 x4 _ ih
        · refine I_iconst (0 : Int32) 993 dL_law_992 rfl (by decide) ?_
          exact I_zret dL_law_993 rfl
      refine I_tableOut 1014 dL_law_40 (tsw_15 e0 e1 e2 e3 e4 e5 e6 e7 e8 e9 e10 e11 e12 e13 e14 e15) rfl ?_
      refine I_sub [(0, .ref (gb g)), (1, .ref x1), (2, .ref x2), (3, .ref x3), (4, .int x4)] [0, 1, 2, 3, 4] rfl ?_
      exact I_L_law_b1014 hst x1 x2 x3 x4 _ ih
def f_L_law (t0 mi L : Nat) (xs : Nat → Int32) : Mo Int32 :=
    bnd (newO 6 5 [.null, .null, .null, .null, .int 0]) fun v0 =>
    bnd (f_X5_init t0 mi v0) fun _ =>
    bnd (newO 7 38 [.int 0, .int 0, .int 0, .int 0, .int 0, .int 0, .null, .null, .null, .null, .null, .null, .null, .null, .null, .null, .null, .null, .null, .null, .null, .null, .null, .null, .null, .null, .null, .null, .null, .null, .null, .null, .int 0, .int 0, .int 0, .int 0, .int 0, .null]) fun v8 =>
    bnd (f_X6_init t0 mi v8) fun _ =>
    bnd (newK 1 (.inr (.inl fun _ => 0)) (1 : Int32)) fun v17 =>
    L_law_L23 t0 mi L xs v0 v8 v17 (rtZ (1 : Int32)) FU (0 : Int32)
set_option maxRecDepth 20000 in
theorem I_L_law {l : Launch} {g : GX} (hst : l.stackTraces = false) : I l g M_L_law cvI 0 [(0, .ref (gb g))] [] (f_L_law (gt0 g) (gmi g) (gL g) (gxs g)) := by
  unfold f_L_law
  refine I_new 3 dL_law_0 rfl cl6 wcl_617 wit_618 win_81 df6 (fun v0 => ?_)
  refine I_dup 4 dL_law_3 rfl rfl ?_
  refine I_init (As := []) (rest := [.ref v0]) 7 (C_X5_init hst v0) (noT_X5_init _ _ _) dL_law_4 rfl rfl rfl (by decide) (Nat.le_of_ble_eq_true rfl) wcd_619 win_81 wml_620 wim_621 rfl ⟨by decide, by decide, pd_X5_init⟩ ?_
  refine I_astore_n 8 [(1, .ref v0), (0, .ref (gb g))] dL_law_7 rfl rfl (by decide) rfl ?_
  refine I_new 11 dL_law_8 rfl cl7 wcl_622 wit_623 win_200 df7 (fun v8 => ?_)
  refine I_dup 12 dL_law_11 rfl rfl ?_
  refine I_init (As := []) (rest := [.ref v8]) 15 (C_X6_init hst v8) (noT_X6_init _ _ _) dL_law_12 rfl rfl rfl (by decide) (Nat.le_of_ble_eq_true rfl) wcd_624 win_200 wml_625 wim_626 rfl ⟨by decide, by decide, pd_X6_init⟩ ?_
  refine I_astore_n 16 [(2, .ref v8), (1, .ref v0), (0, .ref (gb g))] dL_law_15 rfl rfl (by decide) rfl ?_
  refine I_iconst (1 : Int32) 17 dL_law_16 rfl (by decide) ?_
  refine I_newl 19 dL_law_17 rfl wac_627 (fun v17 => ?_)
  refine I_astore_n 20 [(3, .ref v17), (2, .ref v8), (1, .ref v0), (0, .ref (gb g))] dL_law_19 rfl rfl (by decide) rfl ?_
  refine I_iconst (0 : Int32) 21 dL_law_20 rfl (by decide) ?_
  refine I_istore 23 [(4, .int (0 : Int32)), (3, .ref v17), (2, .ref v8), (1, .ref v0), (0, .ref (gb g))] dL_law_21 rfl (by decide) rfl ?_
  refine I_sub [(0, .ref (gb g)), (1, .ref v0), (2, .ref v8), (3, .ref v17), (4, .int (0 : Int32))] [4, 3, 2, 1, 0] rfl ?_
  refine I_L_law_L23 hst v0 v8 v17 _ ?_ FU (0 : Int32)
  refine I_iconst (1 : Int32) 1021 dL_law_1020 rfl (by decide) ?_
  exact I_zret dL_law_1021 rfl
