/-! LunchMarks$Trip.stands()Z -/
abbrev M_X4_stands : MS := (yX4_stands, cX4_stands, 1, (some .boolean), [], 0, 0)
theorem pd_X4_stands : (parseMethodDescriptor (mY M_X4_stands).desc).map (fun d => d.parameters.length) = some 0 := by decide +kernel
def X4_stands_b13 (t0 mi : Nat) (s0 : Int32) : Mo Int32 :=
    rtZ s0
set_option maxRecDepth 20000 in
theorem I_X4_stands_b13 {l : Launch} {g : GX} (hst : l.stackTraces = false) (s0 : Int32) : I l g M_X4_stands cvI 13 [] [.int s0] (X4_stands_b13 (gt0 g) (gmi g) s0) := by
  unfold X4_stands_b13
  exact I_zret dX4_stands_13 rfl
def f_X4_stands (t0 mi : Nat) (x0 : Nat) : Mo Int32 :=
    bnd (gI x0 5 10) fun v1 =>
    (if v1 = (-1 : Int32) then
    X4_stands_b13 t0 mi (0 : Int32)
    else
    X4_stands_b13 t0 mi (1 : Int32))
set_option maxRecDepth 20000 in
theorem I_X4_stands {l : Launch} {g : GX} (hst : l.stackTraces = false) (x0 : Nat) : I l g M_X4_stands cvI 0 [(0, .ref x0)] [] (f_X4_stands (gt0 g) (gmi g) x0) := by
  unfold f_X4_stands
  refine I_aload_n 0 1 dX4_stands_0 rfl rfl rfl ?_
  refine I_getI 4 dX4_stands_1 rfl cl5 (by decide) wfl_222 sameF_rfl (fun v1 => ?_)
  refine I_iconst (-1 : Int32) 5 dX4_stands_4 rfl (by decide) ?_
  refine I_icmp_eq 12 8 dX4_stands_5 rfl rfl (fun _ => ?_) (fun _ => ?_)
  · refine I_iconst (0 : Int32) 13 dX4_stands_12 rfl (by decide) ?_
    refine I_sub [] [] rfl ?_
    exact I_X4_stands_b13 hst (0 : Int32)
  · refine I_iconst (1 : Int32) 9 dX4_stands_8 rfl (by decide) ?_
    refine I_goto 13 dX4_stands_9 rfl ?_
    refine I_sub [] [] rfl ?_
    exact I_X4_stands_b13 hst (1 : Int32)
theorem C_X4_stands {l : Launch} {g : GX} (hst : l.stackTraces = false) (x0 : Nat) : Cs l g M_X4_stands cvI [.ref x0] (f_X4_stands (gt0 g) (gmi g) x0) :=
  Cs_of_I [(0, .ref x0)] rfl (by decide) hst (Nat.le_of_ble_eq_true rfl) rfl (I_X4_stands hst x0)
/-! java/util/Arrays.fill([II)V -/
abbrev M_J7_fill_53178 : MS := (yJ7_fill_53178, cJ7_fill_53178, 4, none, [], 0, 0)
theorem pd_J7_fill_53178 : (parseMethodDescriptor (mY M_J7_fill_53178).desc).map (fun d => d.parameters.length) = some 2 := by decide +kernel
def J7_fill_53178_L5 (t0 mi : Nat) (x0 : Nat) (x1 : Int32) (x3 : Int32) (kx : Mo Unit) : Nat → Int32 → Mo Unit
  | 0, _ => flr
  | n + 1, x2 =>
    (if x3 ≤ x2 then
    kx
    else
    bnd (stK 0 x0 x2 x1) fun _ =>
    (J7_fill_53178_L5 t0 mi x0 x1 x3 kx n) (x2 + 1))
set_option maxRecDepth 20000 in
theorem I_J7_fill_53178_L5 {l : Launch} {g : GX} (hst : l.stackTraces = false) (x0 : Nat) (x1 : Int32) (x3 : Int32) (kx : Mo Unit) (hkx : I l g M_J7_fill_53178 cvU 20 [] [] kx) : ∀ (n : Nat) (x2 : Int32), I l g M_J7_fill_53178 cvU 5 [(0, .ref x0), (1, .int x1), (2, .int x2), (3, .int x3)] [] (J7_fill_53178_L5 (gt0 g) (gmi g) x0 x1 x3 kx n x2) := by
  intro n
  induction n with
  | zero => intro x2; rw [J7_fill_53178_L5]; exact I_flr
  | succ n ih =>
    intro x2; rw [J7_fill_53178_L5]
    refine I_iload_n 2 6 dJ7_fill_53178_5 rfl rfl rfl ?_
    refine I_iload_n 3 7 dJ7_fill_53178_6 rfl rfl rfl ?_
    refine I_icmp_ge 20 10 dJ7_fill_53178_7 rfl rfl (fun _ => ?_) (fun _ => ?_)
    · refine I_sub [] [] rfl ?_
      exact hkx
    · refine I_aload_n 0 11 dJ7_fill_53178_10 rfl rfl rfl ?_
      refine I_iload_n 2 12 dJ7_fill_53178_11 rfl rfl rfl ?_
      refine I_iload_n 1 13 dJ7_fill_53178_12 rfl rfl rfl ?_
      refine I_iast 14 dJ7_fill_53178_13 rfl ?_
      refine I_iinc 17 (x2 + 1) [(2, .int (x2 + 1)), (0, .ref x0), (1, .int x1), (3, .int x3)] 2 dJ7_fill_53178_14 rfl rfl rfl (by decide) rfl ?_
      refine I_goto 5 dJ7_fill_53178_17 rfl ?_
      refine I_sub [(0, .ref x0), (1, .int x1), (2, .int (x2 + 1)), (3, .int x3)] [1, 2, 0, 3] rfl ?_
      exact ih (x2 + 1)
def f_J7_fill_53178 (t0 mi : Nat) (x0 : Nat) (x1 : Int32) : Mo Unit :=
    bnd (alen x0) fun v3 =>
    J7_fill_53178_L5 t0 mi x0 x1 v3 (rt ()) FU (0 : Int32)
set_option maxRecDepth 20000 in
theorem I_J7_fill_53178 {l : Launch} {g : GX} (hst : l.stackTraces = false) (x0 : Nat) (x1 : Int32) : I l g M_J7_fill_53178 cvU 0 [(0, .ref x0), (1, .int x1)] [] (f_J7_fill_53178 (gt0 g) (gmi g) x0 x1) := by
  unfold f_J7_fill_53178
  refine I_iconst (0 : Int32) 1 dJ7_fill_53178_0 rfl (by decide) ?_
  refine I_istore_n 2 [(2, .int (0 : Int32)), (0, .ref x0), (1, .int x1)] dJ7_fill_53178_1 rfl rfl (by decide) rfl ?_
  refine I_aload_n 1 3 dJ7_fill_53178_2 rfl rfl rfl ?_
  refine I_alen 4 dJ7_fill_53178_3 rfl (fun v3 => ?_)
  refine I_istore_n 5 [(3, .int v3), (2, .int (0 : Int32)), (0, .ref x0), (1, .int x1)] dJ7_fill_53178_4 rfl rfl (by decide) rfl ?_
  refine I_sub [(0, .ref x0), (1, .int x1), (2, .int (0 : Int32)), (3, .int v3)] [2, 3, 1, 0] rfl ?_
  refine I_J7_fill_53178_L5 hst x0 x1 v3 _ ?_ FU (0 : Int32)
  exact I_vret dJ7_fill_53178_20 rfl
theorem C_J7_fill_53178 {l : Launch} {g : GX} (hst : l.stackTraces = false) (x0 : Nat) (x1 : Int32) : Cs l g M_J7_fill_53178 cvU [.ref x0, .int x1] (f_J7_fill_53178 (gt0 g) (gmi g) x0 x1) :=
  Cs_of_I [(0, .ref x0), (1, .int x1)] rfl (by decide) hst (Nat.le_of_ble_eq_true rfl) rfl (I_J7_fill_53178 hst x0 x1)
/-! LunchMarks$Network.sortedAt(LLunchMarks$Train;I)I -/
abbrev M_X2_sortedAt : MS := (yX2_sortedAt, cX2_sortedAt, 3, (some .int), [], 0, 0)
theorem pd_X2_sortedAt : (parseMethodDescriptor (mY M_X2_sortedAt).desc).map (fun d => d.parameters.length) = some 2 := by decide +kernel
def f_X2_sortedAt (t0 mi : Nat) (x0 : Nat) (x1 : Nat) (x2 : Int32) : Mo Int32 :=
    bnd (gA' x1 4 2) fun v1 =>
    bnd (ldK 0 v1 x2) fun v5 =>
    bnd (gA' x0 3 0) fun v7 =>
    bnd (gA' x1 4 1) fun v11 =>
    bnd (ldK 0 v11 x2) fun v15 =>
    bnd (ldK 0 v7 v15) fun v16 =>
    rt (v5 + v16)
set_option maxRecDepth 20000 in
theorem I_X2_sortedAt {l : Launch} {g : GX} (hst : l.stackTraces = false) (x0 : Nat) (x1 : Nat) (x2 : Int32) : I l g M_X2_sortedAt cvI 0 [(0, .ref x0), (1, .ref x1), (2, .int x2)] [] (f_X2_sortedAt (gt0 g) (gmi g) x0 x1 x2) := by
  unfold f_X2_sortedAt
  refine I_aload_n 1 1 dX2_sortedAt_0 rfl rfl rfl ?_
  refine I_getA 4 dX2_sortedAt_1 rfl cl4 (by decide) wfl_242 sameF_rfl (fun v1 => ?_)
  refine I_iload_n 2 5 dX2_sortedAt_4 rfl rfl rfl ?_
  refine I_iald 6 dX2_sortedAt_5 rfl (fun v5 => ?_)
  refine I_aload_n 0 7 dX2_sortedAt_6 rfl rfl rfl ?_
  refine I_getA 10 dX2_sortedAt_7 rfl cl3 (by decide) wfl_16 sameF_rfl (fun v7 => ?_)
  refine I_aload_n 1 11 dX2_sortedAt_10 rfl rfl rfl ?_
  refine I_getA 14 dX2_sortedAt_11 rfl cl4 (by decide) wfl_243 sameF_rfl (fun v11 => ?_)
  refine I_iload_n 2 15 dX2_sortedAt_14 rfl rfl rfl ?_
  refine I_iald 16 dX2_sortedAt_15 rfl (fun v15 => ?_)
  refine I_iald 17 dX2_sortedAt_16 rfl (fun v16 => ?_)
  refine I_iadd 18 dX2_sortedAt_17 rfl ?_
  exact I_iret dX2_sortedAt_18 rfl
theorem C_X2_sortedAt {l : Launch} {g : GX} (hst : l.stackTraces = false) (x0 : Nat) (x1 : Nat) (x2 : Int32) : Cs l g M_X2_sortedAt cvI [.ref x0, .ref x1, .int x2] (f_X2_sortedAt (gt0 g) (gmi g) x0 x1 x2) :=
  Cs_of_I [(0, .ref x0), (1, .ref x1), (2, .int x2)] rfl (by decide) hst (Nat.le_of_ble_eq_true rfl) rfl (I_X2_sortedAt hst x0 x1 x2)
/-! LunchMarks$Train.isFull(I)Z -/
abbrev M_X3_isFull : MS := (yX3_isFull, cX3_isFull, 2, (some .boolean), [], 0, 0)
theorem pd_X3_isFull : (parseMethodDescriptor (mY M_X3_isFull).desc).map (fun d => d.parameters.length) = some 1 := by decide +kernel
def X3_isFull_b18 (t0 mi : Nat) (s0 : Int32) : Mo Int32 :=
    rtZ s0
set_option maxRecDepth 20000 in
theorem I_X3_isFull_b18 {l : Launch} {g : GX} (hst : l.stackTraces = false) (s0 : Int32) : I l g M_X3_isFull cvI 18 [] [.int s0] (X3_isFull_b18 (gt0 g) (gmi g) s0) := by
  unfold X3_isFull_b18
  exact I_zret dX3_isFull_18 rfl
def f_X3_isFull (t0 mi : Nat) (x0 : Nat) (x1 : Int32) : Mo Int32 :=
    bnd (gA' x0 4 3) fun v1 =>
    bnd (ldK 0 v1 x1) fun v5 =>
    bnd (gI x0 4 0) fun v7 =>
    (if v5 < v7 then
    X3_isFull_b18 t0 mi (0 : Int32)
    else
    X3_isFull_b18 t0 mi (1 : Int32))
set_option maxRecDepth 20000 in
theorem I_X3_isFull {l : Launch} {g : GX} (hst : l.stackTraces = false) (x0 : Nat) (x1 : Int32) : I l g M_X3_isFull cvI 0 [(0, .ref x0), (1, .int x1)] [] (f_X3_isFull (gt0 g) (gmi g) x0 x1) := by
  unfold f_X3_isFull
  refine I_aload_n 0 1 dX3_isFull_0 rfl rfl rfl ?_
  refine I_getA 4 dX3_isFull_1 rfl cl4 (by decide) wfl_95 sameF_rfl (fun v1 => ?_)
  refine I_iload_n 1 5 dX3_isFull_4 rfl rfl rfl ?_
  refine I_iald 6 dX3_isFull_5 rfl (fun v5 => ?_)
  refine I_aload_n 0 7 dX3_isFull_6 rfl rfl rfl ?_
  refine I_getI 10 dX3_isFull_7 rfl cl4 (by decide) wfl_92 sameF_rfl (fun v7 => ?_)
  refine I_icmp_lt 17 13 dX3_isFull_10 rfl rfl (fun _ => ?_) (fun _ => ?_)
  · refine I_iconst (0 : Int32) 18 dX3_isFull_17 rfl (by decide) ?_
    refine I_sub [] [] rfl ?_
    exact I_X3_isFull_b18 hst (0 : Int32)
  · refine I_iconst (1 : Int32) 14 dX3_isFull_13 rfl (by decide) ?_
    refine I_goto 18 dX3_isFull_14 rfl ?_
    refine I_sub [] [] rfl ?_
    exact I_X3_isFull_b18 hst (1 : Int32)
theorem C_X3_isFull {l : Launch} {g : GX} (hst : l.stackTraces = false) (x0 : Nat) (x1 : Int32) : Cs l g M_X3_isFull cvI [.ref x0, .int x1] (f_X3_isFull (gt0 g) (gmi g) x0 x1) :=
  Cs_of_I [(0, .ref x0), (1, .int x1)] rfl (by decide) hst (Nat.le_of_ble_eq_true rfl) rfl (I_X3_isFull hst x0 x1)
/-! LunchMarks$Network.ride(LLunchMarks$Train;[I[I)V -/
abbrev M_X2_ride : MS := (yX2_ride, cX2_ride, 8, none, [], 1, 22)
theorem pd_X2_ride : (parseMethodDescriptor (mY M_X2_ride).desc).map (fun d => d.parameters.length) = some 3 := by decide +kernel
def X2_ride_b92 (t0 mi : Nat) (kh6 : Int32 → Int32 → Mo Unit) (x0 : Nat) (x1 : Nat) (x2 : Nat) (x3 : Nat) (x5 : Int32) (s0 : Int32) : Mo Unit :=
    kh6 s0 (x5 + 1)
set_option maxRecDepth 20000 in
theorem I_X2_ride_b92 {l : Launch} {g : GX} (hst : l.stackTraces = false) (x0 : Nat) (x1 : Nat) (x2 : Nat) (x3 : Nat) (x5 : Int32) (s0 : Int32) (kh6 : Int32 → Int32 → Mo Unit) (hkh6 : ∀ (z4 : Int32) (z5 : Int32), I l g M_X2_ride cvU 6 [(0, .ref x0), (1, .ref x1), (2, .ref x2), (3, .ref x3), (4, .int z4), (5, .int z5)] [] (kh6 z4 z5)) : I l g M_X2_ride cvU 92 [(0, .ref x0), (1, .ref x1), (2, .ref x2), (3, .ref x3), (5, .int x5)] [.int s0] (X2_ride_b92 (gt0 g) (gmi g) kh6 x0 x1 x2 x3 x5 s0) := by
  unfold X2_ride_b92
  refine I_istore 94 [(4, .int s0), (0, .ref x0), (1, .ref x1), (2, .ref x2), (3, .ref x3), (5, .int x5)] dX2_ride_92 rfl (by decide) rfl ?_
  refine I_iinc 97 (x5 + 1) [(5, .int (x5 + 1)), (4, .int s0), (0, .ref x0), (1, .ref x1), (2, .ref x2), (3, .ref x3)] 5 dX2_ride_94 rfl rfl rfl (by decide) rfl ?_
  refine I_goto 6 dX2_ride_97 rfl ?_
  refine I_sub [(0, .ref x0), (1, .ref x1), (2, .ref x2), (3, .ref x3), (4, .int s0), (5, .int (x5 + 1))] [2, 3, 4, 5, 1, 0] rfl ?_
  exact hkh6 s0 (x5 + 1)
def X2_ride_b91 (t0 mi : Nat) (kh6 : Int32 → Int32 → Mo Unit) (x0 : Nat) (x1 : Nat) (x2 : Nat) (x3 : Nat) (x5 : Int32) : Mo Unit :=
    X2_ride_b92 t0 mi kh6 x0 x1 x2 x3 x5 (0 : Int32)
set_option maxRecDepth 20000 in
theorem I_X2_ride_b91 {l : Launch} {g : GX} (hst : l.stackTraces = false) (x0 : Nat) (x1 : Nat) (x2 : Nat) (x3 : Nat) (x5 : Int32) (kh6 : Int32 → Int32 → Mo Unit) (hkh6 : ∀ (z4 : Int32) (z5 : Int32), I l g M_X2_ride cvU 6 [(0, .ref x0), (1, .ref x1), (2, .ref x2), (3, .ref x3), (4, .int z4), (5, .int z5)] [] (kh6 z4 z5)) : I l g M_X2_ride cvU 91 [(0, .ref x0), (1, .ref x1), (2, .ref x2), (3, .ref x3), (5, .int x5)] [] (X2_ride_b91 (gt0 g) (gmi g) kh6 x0 x1 x2 x3 x5) := by
  unfold X2_ride_b91
  refine I_iconst (0 : Int32) 92 dX2_ride_91 rfl (by decide) ?_
  refine I_sub [(0, .ref x0), (1, .ref x1), (2, .ref x2), (3, .ref x3), (5, .int x5)] [0, 1, 2, 3, 4] rfl ?_
  exact I_X2_ride_b92 hst x0 x1 x2 x3 x5 (0 : Int32) _ hkh6
def X2_ride_b78 (t0 mi : Nat) (kh6 : Int32 → Int32 → Mo Unit) (x0 : Nat) (x1 : Nat) (x2 : Nat) (x3 : Nat) (x5 : Int32) : Mo Unit :=
    bnd (vc x1 4 (f_X3_isFull t0 mi x1 x5)) fun v81 =>
    (if v81 = 0 then
    X2_ride_b92 t0 mi kh6 x0 x1 x2 x3 x5 (1 : Int32)
    else
    X2_ride_b91 t0 mi kh6 x0 x1 x2 x3 x5)
set_option maxRecDepth 20000 in
theorem I_X2_ride_b78 {l : Launch} {g : GX} (hst : l.stackTraces = false) (x0 : Nat) (x1 : Nat) (x2 : Nat) (x3 : Nat) (x5 : Int32) (kh6 : Int32 → Int32 → Mo Unit) (hkh6 : ∀ (z4 : Int32) (z5 : Int32), I l g M_X2_ride cvU 6 [(0, .ref x0), (1, .ref x1), (2, .ref x2), (3, .ref x3), (4, .int z4), (5, .int z5)] [] (kh6 z4 z5)) : I l g M_X2_ride cvU 78 [(0, .ref x0), (1, .ref x1), (2, .ref x2), (3, .ref x3), (5, .int x5)] [] (X2_ride_b78 (gt0 g) (gmi g) kh6 x0 x1 x2 x3 x5) := by
  unfold X2_ride_b78
  refine I_aload_n 1 79 dX2_ride_78 rfl rfl rfl ?_
  refine I_iload 4 81 dX2_ride_79 rfl rfl ?_
  refine I_callVi (As := [.int x5]) (rest := []) 84 (C_X3_isFull hst x1 x5) dX2_ride_81 rfl cl4 rfl (by decide) (Nat.le_of_ble_eq_true rfl) wcd_245 win_137 wml_246 wim_247 wse_248 ⟨by decide, by decide, pd_X3_isFull⟩ (fun x hx => by cases hx) (fun v81 => ?_)
  refine I_if_ne 91 87 dX2_ride_84 rfl rfl (fun _ => ?_) (fun _ => ?_)
  · refine I_iconst (1 : Int32) 88 dX2_ride_87 rfl (by decide) ?_
    refine I_goto 92 dX2_ride_88 rfl ?_
    refine I_sub [(0, .ref x0), (1, .ref x1), (2, .ref x2), (3, .ref x3), (5, .int x5)] [0, 1, 2, 3, 4] rfl ?_
    exact I_X2_ride_b92 hst x0 x1 x2 x3 x5 (1 : Int32) _ hkh6
  · refine I_sub [(0, .ref x0), (1, .ref x1), (2, .ref x2), (3, .ref x3), (5, .int x5)] [0, 1, 2, 3, 4] rfl ?_
    exact I_X2_ride_b91 hst x0 x1 x2 x3 x5 _ hkh6
def X2_ride_b66 (t0 mi : Nat) (kh6 : Int32 → Int32 → Mo Unit) (x0 : Nat) (x1 : Nat) (x2 : Nat) (x3 : Nat) (x4 : Int32) (x5 : Int32) (s0 : Int32) : Mo Unit :=
    (if x4 = 0 then
    (if s0 = 0 then
    X2_ride_b91 t0 mi kh6 x0 x1 x2 x3 x5
    else
    X2_ride_b78 t0 mi kh6 x0 x1 x2 x3 x5)
    else
    X2_ride_b78 t0 mi kh6 x0 x1 x2 x3 x5)
set_option maxRecDepth 20000 in
theorem I_X2_ride_b66 {l : Launch} {g : GX} (hst : l.stackTraces = false) (x0 : Nat) (x1 : Nat) (x2 : Nat) (x3 : Nat) (x4 : Int32) (x5 : Int32) (s0 : Int32) (kh6 : Int32 → Int32 → Mo Unit) (hkh6 : ∀ (z4 : Int32) (z5 : Int32), I l g M_X2_ride cvU 6 [(0, .ref x0), (1, .ref x1), (2, .ref x2), (3, .ref x3), (4, .int z4), (5, .int z5)] [] (kh6 z4 z5)) : I l g M_X2_ride cvU 66 [(0, .ref x0), (1, .ref x1), (2, .ref x2), (3, .ref x3), (4, .int x4), (5, .int x5)] [.int s0] (X2_ride_b66 (gt0 g) (gmi g) kh6 x0 x1 x2 x3 x4 x5 s0) := by
  unfold X2_ride_b66
  refine I_istore 68 [(7, .int s0), (0, .ref x0), (1, .ref x1), (2, .ref x2), (3, .ref x3), (4, .int x4), (5, .int x5)] dX2_ride_66 rfl (by decide) rfl ?_
  refine I_iload 5 70 dX2_ride_68 rfl rfl ?_
  refine I_if_ne 78 73 dX2_ride_70 rfl rfl (fun _ => ?_) (fun _ => ?_)
  · refine I_iload 0 75 dX2_ride_73 rfl rfl ?_
    refine I_if_eq 91 78 dX2_ride_75 rfl rfl (fun _ => ?_) (fun _ => ?_)
    · refine I_sub [(0, .ref x0), (1, .ref x1), (2, .ref x2), (3, .ref x3), (5, .int x5)] [1, 2, 3, 4, 6] rfl ?_
      exact I_X2_ride_b91 hst x0 x1 x2 x3 x5 _ hkh6
    · refine I_sub [(0, .ref x0), (1, .ref x1), (2, .ref x2), (3, .ref x3), (5, .int x5)] [1, 2, 3, 4, 6] rfl ?_
      exact I_X2_ride_b78 hst x0 x1 x2 x3 x5 _ hkh6
  · refine I_sub [(0, .ref x0), (1, .ref x1), (2, .ref x2), (3, .ref x3), (5, .int x5)] [1, 2, 3, 4, 6] rfl ?_
    exact I_X2_ride_b78 hst x0 x1 x2 x3 x5 _ hkh6
def X2_ride_b47 (t0 mi : Nat) (kh6 : Int32 → Int32 → Mo Unit) (x0 : Nat) (x1 : Nat) (x2 : Nat) (x3 : Nat) (x4 : Int32) (x5 : Int32) (x6 : Int32) : Mo Unit :=
    bnd (ldK 0 x2 x6) fun v50 =>
    bnd (gA' x1 4 2) fun v52 =>
    bnd (ldK 0 v52 x5) fun v57 =>
    (if v57 < v50 then
    X2_ride_b66 t0 mi kh6 x0 x1 x2 x3 x4 x5 (0 : Int32)
    else
    X2_ride_b66 t0 mi kh6 x0 x1 x2 x3 x4 x5 (1 : Int32))
set_option maxRecDepth 20000 in
theorem I_X2_ride_b47 {l : Launch} {g : GX} (hst : l.stackTraces = false) (x0 : Nat) (x1 : Nat) (x2 : Nat) (x3 : Nat) (x4 : Int32) (x5 : Int32) (x6 : Int32) (kh6 : Int32 → Int32 → Mo Unit) (hkh6 : ∀ (z4 : Int32) (z5 : Int32), I l g M_X2_ride cvU 6 [(0, .ref x0), (1, .ref x1), (2, .ref x2), (3, .ref x3), (4, .int z4), (5, .int z5)] [] (kh6 z4 z5)) : I l g M_X2_ride cvU 47 [(0, .ref x0), (1, .ref x1), (2, .ref x2), (3, .ref x3), (4, .int x4), (5, .int x5), (6, .int x6)] [] (X2_ride_b47 (gt0 g) (gmi g) kh6 x0 x1 x2 x3 x4 x5 x6) := by
  unfold X2_ride_b47
  refine I_aload_n 2 48 dX2_ride_47 rfl rfl rfl ?_
  refine I_iload 6 50 dX2_ride_48 rfl rfl ?_
  refine I_iald 51 dX2_ride_50 rfl (fun v50 => ?_)
  refine I_aload_n 1 52 dX2_ride_51 rfl rfl rfl ?_
  refine I_getA 55 dX2_ride_52 rfl cl4 (by decide) wfl_242 sameF_rfl (fun v52 => ?_)
  refine I_iload 5 57 dX2_ride_55 rfl rfl ?_
  refine I_iald 58 dX2_ride_57 rfl (fun v57 => ?_)
  refine I_icmp_gt 65 61 dX2_ride_58 rfl rfl (fun _ => ?_) (fun _ => ?_)
  · refine I_iconst (0 : Int32) 66 dX2_ride_65 rfl (by decide) ?_
    refine I_sub [(0, .ref x0), (1, .ref x1), (2, .ref x2), (3, .ref x3), (4, .int x4), (5, .int x5)] [0, 1, 2, 3, 4, 5] rfl ?_
    exact I_X2_ride_b66 hst x0 x1 x2 x3 x4 x5 (0 : Int32) _ hkh6
  · refine I_iconst (1 : Int32) 62 dX2_ride_61 rfl (by decide) ?_
    refine I_goto 66 dX2_ride_62 rfl ?_
    refine I_sub [(0, .ref x0), (1, .ref x1), (2, .ref x2), (3, .ref x3), (4, .int x4), (5, .int x5)] [0, 1, 2, 3, 4, 5] rfl ?_
    exact I_X2_ride_b66 hst x0 x1 x2 x3 x4 x5 (1 : Int32) _ hkh6
def X2_ride_L6 (t0 mi : Nat) (x0 : Nat) (x1 : Nat) (x2 : Nat) (x3 : Nat) (kx : Mo Unit) : Nat → Int32 → Int32 → Mo Unit
  | 0, _, _ => flr
  | n + 1, x4, x5 =>
    bnd (gI x1 4 4) fun v9 =>
    (if v9 ≤ x5 then
    kx
    else
    bnd (gA' x1 4 1) fun v16 =>
    bnd (ldK 0 v16 x5) fun v21 =>
    (if x4 = 0 then
    X2_ride_b47 t0 mi (X2_ride_L6 t0 mi x0 x1 x2 x3 kx n) x0 x1 x2 x3 x4 x5 v21
    else
    bnd (ldK 0 x3 v21) fun v35 =>
    bnd (vc x0 3 (f_X2_sortedAt t0 mi x0 x1 x5)) fun v40 =>
    bnd (stK 0 x3 v21 (mn v35 v40)) fun _ =>
    X2_ride_b47 t0 mi (X2_ride_L6 t0 mi x0 x1 x2 x3 kx n) x0 x1 x2 x3 x4 x5 v21))
set_option maxRecDepth 20000 in
theorem I_X2_ride_L6 {l : Launch} {g : GX} (hst : l.stackTraces = false) (x0 : Nat) (x1 : Nat) (x2 : Nat) (x3 : Nat) (kx : Mo Unit) (hkx : I l g M_X2_ride cvU 100 [] [] kx) : ∀ (n : Nat) (x4 : Int32) (x5 : Int32), I l g M_X2_ride cvU 6 [(0, .ref x0), (1, .ref x1), (2, .ref x2), (3, .ref x3), (4, .int x4), (5, .int x5)] [] (X2_ride_L6 (gt0 g) (gmi g) x0 x1 x2 x3 kx n x4 x5) := by
  intro n
  induction n with
  | zero => intro x4 x5; rw [X2_ride_L6]; exact I_flr
  | succ n ih =>
    intro x4 x5; rw [X2_ride_L6]
    refine I_iload 5 8 dX2_ride_6 rfl rfl ?_
    refine I_aload_n 1 9 dX2_ride_8 rfl rfl rfl ?_
    refine I_getI 12 dX2_ride_9 rfl cl4 (by decide) wfl_244 sameF_rfl (fun v9 => ?_)
    refine I_icmp_ge 100 15 dX2_ride_12 rfl rfl (fun _ => ?_) (fun _ => ?_)
    · refine I_sub [] [] rfl ?_
      exact hkx
    · refine I_aload_n 1 16 dX2_ride_15 rfl rfl rfl ?_
      refine I_getA 19 dX2_ride_16 rfl cl4 (by decide) wfl_243 sameF_rfl (fun v16 => ?_)
      refine I_iload 5 21 dX2_ride_19 rfl rfl ?_
      refine I_iald 22 dX2_ride_21 rfl (fun v21 => ?_)
      refine I_istore 24 [(6, .int v21), (0, .ref x0), (1, .ref x1), (2, .ref x2), (3, .ref x3), (4, .int x4), (5, .int x5)] dX2_ride_22 rfl (by decide) rfl ?_
      refine I_iload 5 26 dX2_ride_24 rfl rfl ?_
      refine I_if_eq 47 29 dX2_ride_26 rfl rfl (fun _ => ?_) (fun _ => ?_)
      · refine I_sub [(0, .ref x0), (1, .ref x1), (2, .ref x2), (3, .ref x3), (4, .int x4), (5, .int x5), (6, .int v21)] [1, 2, 3, 4, 5, 6, 0] rfl ?_
        exact I_X2_ride_b47 hst x0 x1 x2 x3 x4 x5 v21 _ ih
      · refine I_aload_n 4 30 dX2_ride_29 rfl rfl rfl ?_
        refine I_iload 0 32 dX2_ride_30 rfl rfl ?_
        refine I_aload_n 4 33 dX2_ride_32 rfl rfl rfl ?_
        refine I_iload 0 35 dX2_ride_33 rfl rfl ?_
        refine I_iald 36 dX2_ride_35 rfl (fun v35 => ?_)
        refine I_aload_n 1 37 dX2_ride_36 rfl rfl rfl ?_
        refine I_aload_n 2 38 dX2_ride_37 rfl rfl rfl ?_
        refine I_iload 6 40 dX2_ride_38 rfl rfl ?_
        refine I_callVi (As := [.ref x1, .int x5]) (rest := [.int v35, .int v21, .ref x3]) 43 (C_X2_sortedAt hst x0 x1 x5) dX2_ride_40 rfl cl3 rfl (by decide) (Nat.le_of_ble_eq_true rfl) wcd_249 win_34 wml_250 wim_251 wse_252 ⟨by decide, by decide, pd_X2_sortedAt⟩ (fun x hx => by cases hx) (fun v40 => ?_)
        refine I_mmin 46 dX2_ride_43 rfl wml_253 (by decide) (Nat.le_of_ble_eq_true rfl) ?_
        refine I_iast 47 dX2_ride_46 rfl ?_
        refine I_sub [(0, .ref x0), (1, .ref x1), (2, .ref x2), (3, .ref x3), (4, .int x4), (5, .int x5), (6, .int v21)] [1, 2, 3, 4, 5, 6, 0] rfl ?_
        exact I_X2_ride_b47 hst x0 x1 x2 x3 x4 x5 v21 _ ih
def f_X2_ride (t0 mi : Nat) (x0 : Nat) (x1 : Nat) (x2 : Nat) (x3 : Nat) : Mo Unit :=
    X2_ride_L6 t0 mi x0 x1 x2 x3 (rt ()) FU (0 : Int32) (0 : Int32)
set_option maxRecDepth 20000 in
theorem I_X2_ride {l : Launch} {g : GX} (hst : l.stackTraces = false) (x0 : Nat) (x1 : Nat) (x2 : Nat) (x3 : Nat) : I l g M_X2_ride cvU 0 [(0, .ref x0), (1, .ref x1), (2, .ref x2), (3, .ref x3)] [] (f_X2_ride (gt0 g) (gmi g) x0 x1 x2 x3) := by
  unfold f_X2_ride
  refine I_iconst (0 : Int32) 1 dX2_ride_0 rfl (by decide) ?_
  refine I_istore 3 [(4, .int (0 : Int32)), (0, .ref x0), (1, .ref x1), (2, .ref x2), (3, .ref x3)] dX2_ride_1 rfl (by decide) rfl ?_
  refine I_iconst (0 : Int32) 4 dX2_ride_3 rfl (by decide) ?_
  refine I_istore 6 [(5, .int (0 : Int32)), (4, .int (0 : Int32)), (0, .ref x0), (1, .ref x1), (2, .ref x2), (3, .ref x3)] dX2_ride_4 rfl (by decide) rfl ?_
  refine I_sub [(0, .ref x0), (1, .ref x1), (2, .ref x2), (3, .ref x3), (4, .int (0 : Int32)), (5, .int (0 : Int32))] [2, 3, 4, 5, 1, 0] rfl ?_
  refine I_X2_ride_L6 hst x0 x1 x2 x3 _ ?_ FU (0 : Int32) (0 : Int32)
  exact I_vret dX2_ride_100 rfl
theorem C_X2_ride {l : Launch} {g : GX} (hst : l.stackTraces = false) (x0 : Nat) (x1 : Nat) (x2 : Nat) (x3 : Nat) : Cs l g M_X2_ride cvU [.ref x0, .ref x1, .ref x2, .ref x3] (f_X2_ride (gt0 g) (gmi g) x0 x1 x2 x3) :=
  Cs_of_I [(0, .ref x0), (1, .ref x1), (2, .ref x2), (3, .ref x3)] rfl (by decide) hst (Nat.le_of_ble_eq_true rfl) rfl (I_X2_ride hst x0 x1 x2 x3)
/-! LunchMarks$Network.findEarliest([I[I)V -/
abbrev M_X2_findEarliest : MS := (yX2_findEarliest, cX2_findEarliest, 4, none, [], 3, 64)
theorem pd_X2_findEarliest : (parseMethodDescriptor (mY M_X2_findEarliest).desc).map (fun d => d.parameters.length) = some 2 := by decide +kernel
def X2_findEarliest_b53 (t0 mi : Nat) (kh8 : Int32 → Mo Unit) (x0 : Nat) (x1 : Nat) (x2 : Nat) (x3 : Int32) : Mo Unit :=
    kh8 (x3 + 1)
set_option maxRecDepth 20000 in
theorem I_X2_findEarliest_b53 {l : Launch} {g : GX} (hst : l.stackTraces = false) (x0 : Nat) (x1 : Nat) (x2 : Nat) (x3 : Int32) (kh8 : Int32 → Mo Unit) (hkh8 : ∀ (z3 : Int32), I l g M_X2_findEarliest cvU 8 [(0, .ref x0), (1, .ref x1), (2, .ref x2), (3, .int z3)] [] (kh8 z3)) : I l g M_X2_findEarliest cvU 53 [(0, .ref x0), (1, .ref x1), (2, .ref x2), (3, .int x3)] [] (X2_findEarliest_b53 (gt0 g) (gmi g) kh8 x0 x1 x2 x3) := by
  unfold X2_findEarliest_b53
  refine I_iinc 56 (x3 + 1) [(3, .int (x3 + 1)), (0, .ref x0), (1, .ref x1), (2, .ref x2)] 3 dX2_findEarliest_53 rfl rfl rfl (by decide) rfl ?_
  refine I_goto 8 dX2_findEarliest_56 rfl ?_
  refine I_sub [(0, .ref x0), (1, .ref x1), (2, .ref x2), (3, .int (x3 + 1))] [1, 2, 3, 0] rfl ?_
  exact hkh8 (x3 + 1)
def X2_findEarliest_L8 (t0 mi : Nat) (x0 : Nat) (x1 : Nat) (x2 : Nat) (kx : Mo Unit) : Nat → Int32 → Mo Unit
  | 0, _ => flr
  | n + 1, x3 =>
    bnd (gA' x0 3 2) fun v10 =>
    bnd (vc v10 0 (f_Jx4a65c_size_8abf5 t0 mi v10)) fun v13 =>
    (if v13 ≤ x3 then
    kx
    else
    bnd (gA' x0 3 2) fun v20 =>
    bnd (vc v20 0 (f_Jx4a65c_get_915e3 t0 mi v20 x3)) fun v24 =>
    bnd (isC v24 4) fun _ =>
    bnd (gI v24 4 5) fun v30 =>
    (if v30 = 0 then
    bnd (gA' x0 3 2) fun v38 =>
    bnd (vc v38 0 (f_Jx4a65c_get_915e3 t0 mi v38 x3)) fun v42 =>
    bnd (isC v42 4) fun _ =>
    bnd (vc x0 3 (f_X2_ride t0 mi x0 v42 x1 x2)) fun _ =>
    X2_findEarliest_b53 t0 mi (X2_findEarliest_L8 t0 mi x0 x1 x2 kx n) x0 x1 x2 x3
    else
    X2_findEarliest_b53 t0 mi (X2_findEarliest_L8 t0 mi x0 x1 x2 kx n) x0 x1 x2 x3))
set_option maxRecDepth 20000 in
theorem I_X2_findEarliest_L8 {l : Launch} {g : GX} (hst : l.stackTraces = false) (x0 : Nat) (x1 : Nat) (x2 : Nat) (kx : Mo Unit) (hkx : I l g M_X2_findEarliest cvU 59 [] [] kx) : ∀ (n : Nat) (x3 : Int32), I l g M_X2_findEarliest cvU 8 [(0, .ref x0), (1, .ref x1), (2, .ref x2), (3, .int x3)] [] (X2_findEarliest_L8 (gt0 g) (gmi g) x0 x1 x2 kx n x3) := by
  intro n
  induction n with
  | zero => intro x3; rw [X2_findEarliest_L8]; exact I_flr
  | succ n ih =>
    intro x3; rw [X2_findEarliest_L8]
    refine I_iload_n 3 9 dX2_findEarliest_8 rfl rfl rfl ?_
    refine I_aload_n 0 10 dX2_findEarliest_9 rfl rfl rfl ?_
    refine I_getA 13 dX2_findEarliest_10 rfl cl3 (by decide) wfl_24 sameF_rfl (fun v10 => ?_)
    refine I_callVi (As := []) (rest := [.int x3]) 16 (C_Jx4a65c_size_8abf5 hst v10) dX2_findEarliest_13 rfl cl0 rfl (by decide) (Nat.le_of_ble_eq_true rfl) wcd_131 win_20 wml_132 wim_133 wse_134 ⟨by decide, by decide, pd_Jx4a65c_size_8abf5⟩ (fun x hx => by cases hx) (fun v13 => ?_)
    refine I_icmp_ge 59 19 dX2_findEarliest_16 rfl rfl (fun _ => ?_) (fun _ => ?_)
    · refine I_sub [] [] rfl ?_
      exact hkx
    · refine I_aload_n 0 20 dX2_findEarliest_19 rfl rfl rfl ?_
      refine I_getA 23 dX2_findEarliest_20 rfl cl3 (by decide) wfl_24 sameF_rfl (fun v20 => ?_)
      refine I_iload_n 3 24 dX2_findEarliest_23 rfl rfl rfl ?_
      refine I_callVa (As := [.int x3]) (rest := []) 27 (C_Jx4a65c_get_915e3 hst v20 x3) dX2_findEarliest_24 rfl cl0 rfl (by decide) (Nat.le_of_ble_eq_true rfl) wcd_166 win_20 wml_258 wim_168 wse_169 ⟨by decide, by decide, pd_Jx4a65c_get_915e3⟩ (fun x hx => by cases hx) (fun v24 => ?_)
      refine I_cast 30 dX2_findEarliest_27 rfl cl4 wcl_135 ?_
      refine I_getI 33 dX2_findEarliest_30 rfl cl4 (by decide) wfl_259 sameF_rfl (fun v30 => ?_)
      refine I_if_ne 53 36 dX2_findEarliest_33 rfl rfl (fun _ => ?_) (fun _ => ?_)
      · refine I_aload_n 0 37 dX2_findEarliest_36 rfl rfl rfl ?_
        refine I_aload_n 0 38 dX2_findEarliest_37 rfl rfl rfl ?_
        refine I_getA 41 dX2_findEarliest_38 rfl cl3 (by decide) wfl_24 sameF_rfl (fun v38 => ?_)
        refine I_iload_n 3 42 dX2_findEarliest_41 rfl rfl rfl ?_
        refine I_callVa (As := [.int x3]) (rest := [.ref x0]) 45 (C_Jx4a65c_get_915e3 hst v38 x3) dX2_findEarliest_42 rfl cl0 rfl (by decide) (Nat.le_of_ble_eq_true rfl) wcd_166 win_20 wml_258 wim_168 wse_169 ⟨by decide, by decide, pd_Jx4a65c_get_915e3⟩ (fun x hx => by cases hx) (fun v42 => ?_)
        refine I_cast 48 dX2_findEarliest_45 rfl cl4 wcl_135 ?_
        refine I_aload_n 1 49 dX2_findEarliest_48 rfl rfl rfl ?_
        refine I_aload_n 2 50 dX2_findEarliest_49 rfl rfl rfl ?_
        refine I_callVv (As := [.ref v42, .ref x1, .ref x2]) (rest := []) 53 (C_X2_ride hst x0 v42 x1 x2) dX2_findEarliest_50 rfl cl3 rfl (by decide) (Nat.le_of_ble_eq_true rfl) wcd_260 win_34 wml_261 wim_262 wse_263 ⟨by decide, by decide, pd_X2_ride⟩ (fun x hx => by cases hx) (fun _ => ?_)
        refine I_sub [(0, .ref x0), (1, .ref x1), (2, .ref x2), (3, .int x3)] [0, 1, 2, 3] rfl ?_
        exact I_X2_findEarliest_b53 hst x0 x1 x2 x3 _ ih
      · refine I_sub [(0, .ref x0), (1, .ref x1), (2, .ref x2), (3, .int x3)] [0, 1, 2, 3] rfl ?_
        exact I_X2_findEarliest_b53 hst x0 x1 x2 x3 _ ih
def f_X2_findEarliest (t0 mi : Nat) (x0 : Nat) (x1 : Nat) (x2 : Nat) : Mo Unit :=
    bnd (f_J7_fill_53178 t0 mi x2 (1000000 : Int32)) fun _ =>
    X2_findEarliest_L8 t0 mi x0 x1 x2 (rt ()) FU (0 : Int32)
set_option maxRecDepth 20000 in
theorem I_X2_findEarliest {l : Launch} {g : GX} (hst : l.stackTraces = false) (x0 : Nat) (x1 : Nat) (x2 : Nat) : I l g M_X2_findEarliest cvU 0 [(0, .ref x0), (1, .ref x1), (2, .ref x2)] [] (f_X2_findEarliest (gt0 g) (gmi g) x0 x1 x2) := by
  unfold f_X2_findEarliest
  refine I_aload_n 2 1 dX2_findEarliest_0 rfl rfl rfl ?_
  refine I_ldc (v := 1000000) 3 dX2_findEarliest_1 rfl wcn_254 ?_
  refine I_callSv (As := [.ref x2, .int (1000000 : Int32)]) (rest := []) 6 (C_J7_fill_53178 hst x2 (1000000 : Int32)) dX2_findEarliest_3 rfl rfl (by decide) (Nat.le_of_ble_eq_true rfl) wcd_255 win_106 wml_256 wst_257 ⟨by decide, by decide, pd_J7_fill_53178⟩ (fun x hx => by cases hx) (fun _ => ?_)
  refine I_iconst (0 : Int32) 7 dX2_findEarliest_6 rfl (by decide) ?_
  refine I_istore_n 8 [(3, .int (0 : Int32)), (0, .ref x0), (1, .ref x1), (2, .ref x2)] dX2_findEarliest_7 rfl rfl (by decide) rfl ?_
  refine I_sub [(0, .ref x0), (1, .ref x1), (2, .ref x2), (3, .int (0 : Int32))] [1, 2, 3, 0] rfl ?_
  refine I_X2_findEarliest_L8 hst x0 x1 x2 _ ?_ FU (0 : Int32)
  exact I_vret dX2_findEarliest_59 rfl
theorem C_X2_findEarliest {l : Launch} {g : GX} (hst : l.stackTraces = false) (x0 : Nat) (x1 : Nat) (x2 : Nat) : Cs l g M_X2_findEarliest cvU [.ref x0, .ref x1, .ref x2] (f_X2_findEarliest (gt0 g) (gmi g) x0 x1 x2) :=
  Cs_of_I [(0, .ref x0), (1, .ref x1), (2, .ref x2)] rfl (by decide) hst (Nat.le_of_ble_eq_true rfl) rfl (I_X2_findEarliest hst x0 x1 x2)
/-! LunchMarks$Network.legsOfTheWay(IIII)I -/
abbrev M_X2_legsOfTheWay : MS := (yX2_legsOfTheWay, cX2_legsOfTheWay, 7, (some .int), [], 4, 87)
theorem pd_X2_legsOfTheWay : (parseMethodDescriptor (mY M_X2_legsOfTheWay).desc).map (fun d => d.parameters.length) = some 4 := by decide +kernel
def X2_legsOfTheWay_b98 (t0 mi : Nat) (kh35 : Int32 → Int32 → Mo Int32) (x0 : Nat) (x3 : Int32) (x4 : Int32) (x5 : Int32) (x6 : Int32) : Mo Int32 :=
    kh35 x5 (x6 + 1)
set_option maxRecDepth 20000 in
theorem I_X2_legsOfTheWay_b98 {l : Launch} {g : GX} (hst : l.stackTraces = false) (x0 : Nat) (x3 : Int32) (x4 : Int32) (x5 : Int32) (x6 : Int32) (kh35 : Int32 → Int32 → Mo Int32) (hkh35 : ∀ (z5 : Int32) (z6 : Int32), I l g M_X2_legsOfTheWay cvI 35 [(0, .ref x0), (3, .int x3), (4, .int x4), (5, .int z5), (6, .int z6)] [] (kh35 z5 z6)) : I l g M_X2_legsOfTheWay cvI 98 [(0, .ref x0), (3, .int x3), (4, .int x4), (5, .int x5), (6, .int x6)] [] (X2_legsOfTheWay_b98 (gt0 g) (gmi g) kh35 x0 x3 x4 x5 x6) := by
  unfold X2_legsOfTheWay_b98
  refine I_iinc 101 (x6 + 1) [(6, .int (x6 + 1)), (0, .ref x0), (3, .int x3), (4, .int x4), (5, .int x5)] 4 dX2_legsOfTheWay_98 rfl rfl rfl (by decide) rfl ?_
  refine I_goto 35 dX2_legsOfTheWay_101 rfl ?_
  refine I_sub [(0, .ref x0), (3, .int x3), (4, .int x4), (5, .int x5), (6, .int (x6 + 1))] [1, 2, 3, 4, 0] rfl ?_
  exact hkh35 x5 (x6 + 1)
def X2_legsOfTheWay_b91 (t0 mi : Nat) (kh35 : Int32 → Int32 → Mo Int32) (x0 : Nat) (x3 : Int32) (x4 : Int32) (x5 : Int32) (x6 : Int32) (s0 : Int32) (s1 : Int32) : Mo Int32 :=
    (if s0 ≤ s1 then
    X2_legsOfTheWay_b98 t0 mi kh35 x0 x3 x4 x5 x6
    else
    X2_legsOfTheWay_b98 t0 mi kh35 x0 x3 x4 x6 x6)
set_option maxRecDepth 20000 in
theorem I_X2_legsOfTheWay_b91 {l : Launch} {g : GX} (hst : l.stackTraces = false) (x0 : Nat) (x3 : Int32) (x4 : Int32) (x5 : Int32) (x6 : Int32) (s0 : Int32) (s1 : Int32) (kh35 : Int32 → Int32 → Mo Int32) (hkh35 : ∀ (z5 : Int32) (z6 : Int32), I l g M_X2_legsOfTheWay cvI 35 [(0, .ref x0), (3, .int x3), (4, .int x4), (5, .int z5), (6, .int z6)] [] (kh35 z5 z6)) : I l g M_X2_legsOfTheWay cvI 91 [(0, .ref x0), (3, .int x3), (4, .int x4), (5, .int x5), (6, .int x6)] [.int s0, .int s1] (X2_legsOfTheWay_b91 (gt0 g) (gmi g) kh35 x0 x3 x4 x5 x6 s0 s1) := by
  unfold X2_legsOfTheWay_b91
  refine I_icmp_ge 98 94 dX2_legsOfTheWay_91 rfl rfl (fun _ => ?_) (fun _ => ?_)
  · refine I_sub [(0, .ref x0), (3, .int x3), (4, .int x4), (5, .int x5), (6, .int x6)] [0, 1, 2, 3, 4] rfl ?_
    exact I_X2_legsOfTheWay_b98 hst x0 x3 x4 x5 x6 _ hkh35
  · refine I_iload 4 96 dX2_legsOfTheWay_94 rfl rfl ?_
    refine I_istore 98 [(5, .int x6), (0, .ref x0), (3, .int x3), (4, .int x4), (6, .int x6)] dX2_legsOfTheWay_96 rfl (by decide) rfl ?_
    refine I_sub [(0, .ref x0), (3, .int x3), (4, .int x4), (5, .int x6), (6, .int x6)] [1, 2, 3, 0, 4] rfl ?_
    exact I_X2_legsOfTheWay_b98 hst x0 x3 x4 x6 x6 _ hkh35
def X2_legsOfTheWay_L35 (t0 mi : Nat) (x0 : Nat) (x3 : Int32) (x4 : Int32) (kx : Int32 → Mo Int32) : Nat → Int32 → Int32 → Mo Int32
  | 0, _, _ => flr
  | n + 1, x5, x6 =>
    (if x4 < x6 then
    kx x5
    else
    bnd (gA' x0 3 3) fun v44 =>
    bnd (ldR 4 v44 (x6 - (1 : Int32))) fun v51 =>
    bnd (gA' x0 3 3) fun v53 =>
    bnd (ldR 4 v53 x6) fun v58 =>
    bnd (vc x0 3 (f_X2_findEarliest t0 mi x0 v51 v58)) fun _ =>
    bnd (gA' x0 3 3) fun v63 =>
    bnd (ldR 4 v63 x6) fun v68 =>
    bnd (ldK 0 v68 x3) fun v70 =>
    (if x5 = (-1 : Int32) then
    X2_legsOfTheWay_b91 t0 mi (X2_legsOfTheWay_L35 t0 mi x0 x3 x4 kx n) x0 x3 x4 x5 x6 (1000000 : Int32) v70
    else
    bnd (gA' x0 3 3) fun v83 =>
    bnd (ldR 4 v83 x5) fun v88 =>
    bnd (ldK 0 v88 x3) fun v90 =>
    X2_legsOfTheWay_b91 t0 mi (X2_legsOfTheWay_L35 t0 mi x0 x3 x4 kx n) x0 x3 x4 x5 x6 v90 v70))
set_option maxRecDepth 20000 in
theorem I_X2_legsOfTheWay_L35 {l : Launch} {g : GX} (hst : l.stackTraces = false) (x0 : Nat) (x3 : Int32) (x4 : Int32) (kx : Int32 → Mo Int32) (hkx : ∀ (z5 : Int32), I l g M_X2_legsOfTheWay cvI 104 [(5, .int z5)] [] (kx z5)) : ∀ (n : Nat) (x5 : Int32) (x6 : Int32), I l g M_X2_legsOfTheWay cvI 35 [(0, .ref x0), (3, .int x3), (4, .int x4), (5, .int x5), (6, .int x6)] [] (X2_legsOfTheWay_L35 (gt0 g) (gmi g) x0 x3 x4 kx n x5 x6) := by
  intro n
  induction n with
  | zero => intro x5 x6; rw [X2_legsOfTheWay_L35]; exact I_flr
  | succ n ih =>
    intro x5 x6; rw [X2_legsOfTheWay_L35]
    refine I_iload 4 37 dX2_legsOfTheWay_35 rfl rfl ?_
    refine I_iload 2 39 dX2_legsOfTheWay_37 rfl rfl ?_
    refine I_icmp_gt 104 42 dX2_legsOfTheWay_39 rfl rfl (fun _ => ?_) (fun _ => ?_)
    · refine I_sub [(5, .int x5)] [3] rfl ?_
      exact hkx x5
    · refine I_aload_n 0 43 dX2_legsOfTheWay_42 rfl rfl rfl ?_
      refine I_aload_n 0 44 dX2_legsOfTheWay_43 rfl rfl rfl ?_
      refine I_getA 47 dX2_legsOfTheWay_44 rfl cl3 (by decide) wfl_26 sameF_rfl (fun v44 => ?_)
      refine I_iload 4 49 dX2_legsOfTheWay_47 rfl rfl ?_
      refine I_iconst (1 : Int32) 50 dX2_legsOfTheWay_49 rfl (by decide) ?_
      refine I_isub 51 dX2_legsOfTheWay_50 rfl ?_
      refine I_aald4 52 dX2_legsOfTheWay_51 rfl (fun v51 => ?_)
      refine I_aload_n 0 53 dX2_legsOfTheWay_52 rfl rfl rfl ?_
      refine I_getA 56 dX2_legsOfTheWay_53 rfl cl3 (by decide) wfl_26 sameF_rfl (fun v53 => ?_)
      refine I_iload 4 58 dX2_legsOfTheWay_56 rfl rfl ?_
      refine I_aald4 59 dX2_legsOfTheWay_58 rfl (fun v58 => ?_)
      refine I_callVv (As := [.ref v51, .ref v58]) (rest := []) 62 (C_X2_findEarliest hst x0 v51 v58) dX2_legsOfTheWay_59 rfl cl3 rfl (by decide) (Nat.le_of_ble_eq_true rfl) wcd_264 win_34 wml_265 wim_266 wse_267 ⟨by decide, by decide, pd_X2_findEarliest⟩ (fun x hx => by cases hx) (fun _ => ?_)
      refine I_aload_n 0 63 dX2_legsOfTheWay_62 rfl rfl rfl ?_
      refine I_getA 66 dX2_legsOfTheWay_63 rfl cl3 (by decide) wfl_26 sameF_rfl (fun v63 => ?_)
      refine I_iload 4 68 dX2_legsOfTheWay_66 rfl rfl ?_
      refine I_aald4 69 dX2_legsOfTheWay_68 rfl (fun v68 => ?_)
      refine I_iload_n 1 70 dX2_legsOfTheWay_69 rfl rfl rfl ?_
      refine I_iald 71 dX2_legsOfTheWay_70 rfl (fun v70 => ?_)
      refine I_iload 3 73 dX2_legsOfTheWay_71 rfl rfl ?_
      refine I_iconst (-1 : Int32) 74 dX2_legsOfTheWay_73 rfl (by decide) ?_
      refine I_icmp_ne 82 77 dX2_legsOfTheWay_74 rfl rfl (fun _ => ?_) (fun _ => ?_)
      · refine I_ldc (v := 1000000) 79 dX2_legsOfTheWay_77 rfl wcn_254 ?_
        refine I_goto 91 dX2_legsOfTheWay_79 rfl ?_
        refine I_sub [(0, .ref x0), (3, .int x3), (4, .int x4), (5, .int x5), (6, .int x6)] [0, 1, 2, 3, 4] rfl ?_
        exact I_X2_legsOfTheWay_b91 hst x0 x3 x4 x5 x6 (1000000 : Int32) v70 _ ih
      · refine I_aload_n 0 83 dX2_legsOfTheWay_82 rfl rfl rfl ?_
        refine I_getA 86 dX2_legsOfTheWay_83 rfl cl3 (by decide) wfl_26 sameF_rfl (fun v83 => ?_)
        refine I_iload 3 88 dX2_legsOfTheWay_86 rfl rfl ?_
        refine I_aald4 89 dX2_legsOfTheWay_88 rfl (fun v88 => ?_)
        refine I_iload_n 1 90 dX2_legsOfTheWay_89 rfl rfl rfl ?_
        refine I_iald 91 dX2_legsOfTheWay_90 rfl (fun v90 => ?_)
        refine I_sub [(0, .ref x0), (3, .int x3), (4, .int x4), (5, .int x5), (6, .int x6)] [0, 1, 2, 3, 4] rfl ?_
        exact I_X2_legsOfTheWay_b91 hst x0 x3 x4 x5 x6 v90 v70 _ ih
def X2_legsOfTheWay_b30 (t0 mi : Nat) (x0 : Nat) (x3 : Int32) (x4 : Int32) (s0 : Int32) : Mo Int32 :=
    X2_legsOfTheWay_L35 t0 mi x0 x3 x4 (fun y1_5 =>
    rt y1_5) FU s0 (1 : Int32)
set_option maxRecDepth 20000 in
theorem I_X2_legsOfTheWay_b30 {l : Launch} {g : GX} (hst : l.stackTraces = false) (x0 : Nat) (x3 : Int32) (x4 : Int32) (s0 : Int32) : I l g M_X2_legsOfTheWay cvI 30 [(0, .ref x0), (3, .int x3), (4, .int x4)] [.int s0] (X2_legsOfTheWay_b30 (gt0 g) (gmi g) x0 x3 x4 s0) := by
  unfold X2_legsOfTheWay_b30
  refine I_istore 32 [(5, .int s0), (0, .ref x0), (3, .int x3), (4, .int x4)] dX2_legsOfTheWay_30 rfl (by decide) rfl ?_
  refine I_iconst (1 : Int32) 33 dX2_legsOfTheWay_32 rfl (by decide) ?_
  refine I_istore 35 [(6, .int (1 : Int32)), (5, .int s0), (0, .ref x0), (3, .int x3), (4, .int x4)] dX2_legsOfTheWay_33 rfl (by decide) rfl ?_
  refine I_sub [(0, .ref x0), (3, .int x3), (4, .int x4), (5, .int s0), (6, .int (1 : Int32))] [2, 3, 4, 1, 0] rfl ?_
  refine I_X2_legsOfTheWay_L35 hst x0 x3 x4 _ (fun y1_5 => ?_) FU s0 (1 : Int32)
  refine I_iload 0 106 dX2_legsOfTheWay_104 rfl rfl ?_
  exact I_iret dX2_legsOfTheWay_106 rfl
def f_X2_legsOfTheWay (t0 mi : Nat) (x0 : Nat) (x1 : Int32) (x2 : Int32) (x3 : Int32) (x4 : Int32) : Mo Int32 :=
    bnd (gA' x0 3 3) fun v1 =>
    bnd (ldR 4 v1 (0 : Int32)) fun v5 =>
    bnd (f_J7_fill_53178 t0 mi v5 (1000000 : Int32)) fun _ =>
    bnd (gA' x0 3 3) fun v12 =>
    bnd (ldR 4 v12 (0 : Int32)) fun v16 =>
    bnd (stK 0 v16 x1 x2) fun _ =>
    (if x1 = x3 then
    X2_legsOfTheWay_b30 t0 mi x0 x3 x4 (0 : Int32)
    else
    X2_legsOfTheWay_b30 t0 mi x0 x3 x4 (-1 : Int32))
set_option maxRecDepth 20000 in
theorem I_X2_legsOfTheWay {l : Launch} {g : GX} (hst : l.stackTraces = false) (x0 : Nat) (x1 : Int32) (x2 : Int32) (x3 : Int32) (x4 : Int32) : I l g M_X2_legsOfTheWay cvI 0 [(0, .ref x0), (1, .int x1), (2, .int x2), (3, .int x3), (4, .int x4)] [] (f_X2_legsOfTheWay (gt0 g) (gmi g) x0 x1 x2 x3 x4) := by
  unfold f_X2_legsOfTheWay
  refine I_aload_n 0 1 dX2_legsOfTheWay_0 rfl rfl rfl ?_
  refine I_getA 4 dX2_legsOfTheWay_1 rfl cl3 (by decide) wfl_26 sameF_rfl (fun v1 => ?_)
  refine I_iconst (0 : Int32) 5 dX2_legsOfTheWay_4 rfl (by decide) ?_
  refine I_aald4 6 dX2_legsOfTheWay_5 rfl (fun v5 => ?_)
  refine I_ldc (v := 1000000) 8 dX2_legsOfTheWay_6 rfl wcn_254 ?_
  refine I_callSv (As := [.ref v5, .int (1000000 : Int32)]) (rest := []) 11 (C_J7_fill_53178 hst v5 (1000000 : Int32)) dX2_legsOfTheWay_8 rfl rfl (by decide) (Nat.le_of_ble_eq_true rfl) wcd_255 win_106 wml_256 wst_257 ⟨by decide, by decide, pd_J7_fill_53178⟩ (fun x hx => by cases hx) (fun _ => ?_)
  refine I_aload_n 0 12 dX2_legsOfTheWay_11 rfl rfl rfl ?_
  refine I_getA 15 dX2_legsOfTheWay_12 rfl cl3 (by decide) wfl_26 sameF_rfl (fun v12 => ?_)
  refine I_iconst (0 : Int32) 16 dX2_legsOfTheWay_15 rfl (by decide) ?_
  refine I_aald4 17 dX2_legsOfTheWay_16 rfl (fun v16 => ?_)
  refine I_iload_n 1 18 dX2_legsOfTheWay_17 rfl rfl rfl ?_
  refine I_iload_n 2 19 dX2_legsOfTheWay_18 rfl rfl rfl ?_
  refine I_iast 20 dX2_legsOfTheWay_19 rfl ?_
  refine I_iload_n 1 21 dX2_legsOfTheWay_20 rfl rfl rfl ?_
  refine I_iload_n 3 22 dX2_legsOfTheWay_21 rfl rfl rfl ?_
  refine I_icmp_ne 29 25 dX2_legsOfTheWay_22 rfl rfl (fun _ => ?_) (fun _ => ?_)
  · refine I_iconst (0 : Int32) 26 dX2_legsOfTheWay_25 rfl (by decide) ?_
    refine I_goto 30 dX2_legsOfTheWay_26 rfl ?_
    refine I_sub [(0, .ref x0), (3, .int x3), (4, .int x4)] [0, 3, 4] rfl ?_
    exact I_X2_legsOfTheWay_b30 hst x0 x3 x4 (0 : Int32)
  · refine I_iconst (-1 : Int32) 30 dX2_legsOfTheWay_29 rfl (by decide) ?_
    refine I_sub [(0, .ref x0), (3, .int x3), (4, .int x4)] [0, 3, 4] rfl ?_
    exact I_X2_legsOfTheWay_b30 hst x0 x3 x4 (-1 : Int32)
theorem C_X2_legsOfTheWay {l : Launch} {g : GX} (hst : l.stackTraces = false) (x0 : Nat) (x1 : Int32) (x2 : Int32) (x3 : Int32) (x4 : Int32) : Cs l g M_X2_legsOfTheWay cvI [.ref x0, .int x1, .int x2, .int x3, .int x4] (f_X2_legsOfTheWay (gt0 g) (gmi g) x0 x1 x2 x3 x4) :=
  Cs_of_I [(0, .ref x0), (1, .int x1), (2, .int x2), (3, .int x3), (4, .int x4)] rfl (by decide) hst (Nat.le_of_ble_eq_true rfl) rfl (I_X2_legsOfTheWay hst x0 x1 x2 x3 x4)
/-! LunchMarks$Network.rideBackwards(LLunchMarks$Train;[I[I)V -/
abbrev M_X2_rideBackwards : MS := (yX2_rideBackwards, cX2_rideBackwards, 7, none, [], 1, 22)
theorem pd_X2_rideBackwards : (parseMethodDescriptor (mY M_X2_rideBackwards).desc).map (fun d => d.parameters.length) = some 3 := by decide +kernel
def X2_rideBackwards_b93 (t0 mi : Nat) (kh11 : Int32 → Int32 → Mo Unit) (x0 : Nat) (x1 : Nat) (x2 : Nat) (x3 : Nat) (x5 : Int32) (s0 : Int32) : Mo Unit :=
    kh11 s0 (x5 + (-1))
set_option maxRecDepth 20000 in
theorem I_X2_rideBackwards_b93 {l : Launch} {g : GX} (hst : l.stackTraces = false) (x0 : Nat) (x1 : Nat) (x2 : Nat) (x3 : Nat) (x5 : Int32) (s0 : Int32) (kh11 : Int32 → Int32 → Mo Unit) (hkh11 : ∀ (z4 : Int32) (z5 : Int32), I l g M_X2_rideBackwards cvU 11 [(0, .ref x0), (1, .ref x1), (2, .ref x2), (3, .ref x3), (4, .int z4), (5, .int z5)] [] (kh11 z4 z5)) : I l g M_X2_rideBackwards cvU 93 [(0, .ref x0), (1, .ref x1), (2, .ref x2), (3, .ref x3), (5, .int x5)] [.int s0] (X2_rideBackwards_b93 (gt0 g) (gmi g) kh11 x0 x1 x2 x3 x5 s0) := by
  unfold X2_rideBackwards_b93
  refine I_istore 95 [(4, .int s0), (0, .ref x0), (1, .ref x1), (2, .ref x2), (3, .ref x3), (5, .int x5)] dX2_rideBackwards_93 rfl (by decide) rfl ?_
  refine I_iinc 98 (x5 + (-1)) [(5, .int (x5 + (-1))), (4, .int s0), (0, .ref x0), (1, .ref x1), (2, .ref x2), (3, .ref x3)] 5 dX2_rideBackwards_95 rfl rfl rfl (by decide) rfl ?_
  refine I_goto 11 dX2_rideBackwards_98 rfl ?_
  refine I_sub [(0, .ref x0), (1, .ref x1), (2, .ref x2), (3, .ref x3), (4, .int s0), (5, .int (x5 + (-1)))] [2, 3, 4, 5, 1, 0] rfl ?_
  exact hkh11 s0 (x5 + (-1))
def X2_rideBackwards_b88 (t0 mi : Nat) (kh11 : Int32 → Int32 → Mo Unit) (x0 : Nat) (x1 : Nat) (x2 : Nat) (x3 : Nat) (x5 : Int32) : Mo Unit :=
    X2_rideBackwards_b93 t0 mi kh11 x0 x1 x2 x3 x5 (1 : Int32)
set_option maxRecDepth 20000 in
theorem I_X2_rideBackwards_b88 {l : Launch} {g : GX} (hst : l.stackTraces = false) (x0 : Nat) (x1 : Nat) (x2 : Nat) (x3 : Nat) (x5 : Int32) (kh11 : Int32 → Int32 → Mo Unit) (hkh11 : ∀ (z4 : Int32) (z5 : Int32), I l g M_X2_rideBackwards cvU 11 [(0, .ref x0), (1, .ref x1), (2, .ref x2), (3, .ref x3), (4, .int z4), (5, .int z5)] [] (kh11 z4 z5)) : I l g M_X2_rideBackwards cvU 88 [(0, .ref x0), (1, .ref x1), (2, .ref x2), (3, .ref x3), (5, .int x5)] [] (X2_rideBackwards_b88 (gt0 g) (gmi g) kh11 x0 x1 x2 x3 x5) := by
  unfold X2_rideBackwards_b88
  refine I_iconst (1 : Int32) 89 dX2_rideBackwards_88 rfl (by decide) ?_
  refine I_goto 93 dX2_rideBackwards_89 rfl ?_
  refine I_sub [(0, .ref x0), (1, .ref x1), (2, .ref x2), (3, .ref x3), (5, .int x5)] [0, 1, 2, 3, 4] rfl ?_
  exact I_X2_rideBackwards_b93 hst x0 x1 x2 x3 x5 (1 : Int32) _ hkh11
def X2_rideBackwards_b69 (t0 mi : Nat) (kh11 : Int32 → Int32 → Mo Unit) (x0 : Nat) (x1 : Nat) (x2 : Nat) (x3 : Nat) (x4 : Int32) (x5 : Int32) (x6 : Int32) : Mo Unit :=
    (if x4 = 0 then
    bnd (vc x0 3 (f_X2_sortedAt t0 mi x0 x1 x5)) fun v78 =>
    bnd (ldK 0 x2 x6) fun v84 =>
    (if v84 < v78 then
    X2_rideBackwards_b93 t0 mi kh11 x0 x1 x2 x3 x5 (0 : Int32)
    else
    X2_rideBackwards_b88 t0 mi kh11 x0 x1 x2 x3 x5)
    else
    X2_rideBackwards_b88 t0 mi kh11 x0 x1 x2 x3 x5)
set_option maxRecDepth 20000 in
theorem I_X2_rideBackwards_b69 {l : Launch} {g : GX} (hst : l.stackTraces = false) (x0 : Nat) (x1 : Nat) (x2 : Nat) (x3 : Nat) (x4 : Int32) (x5 : Int32) (x6 : Int32) (kh11 : Int32 → Int32 → Mo Unit) (hkh11 : ∀ (z4 : Int32) (z5 : Int32), I l g M_X2_rideBackwards cvU 11 [(0, .ref x0), (1, .ref x1), (2, .ref x2), (3, .ref x3), (4, .int z4), (5, .int z5)] [] (kh11 z4 z5)) : I l g M_X2_rideBackwards cvU 69 [(0, .ref x0), (1, .ref x1), (2, .ref x2), (3, .ref x3), (4, .int x4), (5, .int x5), (6, .int x6)] [] (X2_rideBackwards_b69 (gt0 g) (gmi g) kh11 x0 x1 x2 x3 x4 x5 x6) := by
  unfold X2_rideBackwards_b69
  refine I_iload 4 71 dX2_rideBackwards_69 rfl rfl ?_
  refine I_if_ne 88 74 dX2_rideBackwards_71 rfl rfl (fun _ => ?_) (fun _ => ?_)
  · refine I_aload_n 0 75 dX2_rideBackwards_74 rfl rfl rfl ?_
    refine I_aload_n 1 76 dX2_rideBackwards_75 rfl rfl rfl ?_
    refine I_iload 5 78 dX2_rideBackwards_76 rfl rfl ?_
    refine I_callVi (As := [.ref x1, .int x5]) (rest := []) 81 (C_X2_sortedAt hst x0 x1 x5) dX2_rideBackwards_78 rfl cl3 rfl (by decide) (Nat.le_of_ble_eq_true rfl) wcd_249 win_34 wml_250 wim_251 wse_252 ⟨by decide, by decide, pd_X2_sortedAt⟩ (fun x hx => by cases hx) (fun v78 => ?_)
    refine I_aload_n 2 82 dX2_rideBackwards_81 rfl rfl rfl ?_
    refine I_iload 6 84 dX2_rideBackwards_82 rfl rfl ?_
    refine I_iald 85 dX2_rideBackwards_84 rfl (fun v84 => ?_)
    refine I_icmp_gt 92 88 dX2_rideBackwards_85 rfl rfl (fun _ => ?_) (fun _ => ?_)
    · refine I_iconst (0 : Int32) 93 dX2_rideBackwards_92 rfl (by decide) ?_
      refine I_sub [(0, .ref x0), (1, .ref x1), (2, .ref x2), (3, .ref x3), (5, .int x5)] [0, 1, 2, 3, 5] rfl ?_
      exact I_X2_rideBackwards_b93 hst x0 x1 x2 x3 x5 (0 : Int32) _ hkh11
    · refine I_sub [(0, .ref x0), (1, .ref x1), (2, .ref x2), (3, .ref x3), (5, .int x5)] [0, 1, 2, 3, 5] rfl ?_
      exact I_X2_rideBackwards_b88 hst x0 x1 x2 x3 x5 _ hkh11
  · refine I_sub [(0, .ref x0), (1, .ref x1), (2, .ref x2), (3, .ref x3), (5, .int x5)] [0, 1, 2, 3, 5] rfl ?_
    exact I_X2_rideBackwards_b88 hst x0 x1 x2 x3 x5 _ hkh11
def X2_rideBackwards_b44 (t0 mi : Nat) (kh11 : Int32 → Int32 → Mo Unit) (x0 : Nat) (x1 : Nat) (x2 : Nat) (x3 : Nat) (x5 : Int32) (x6 : Int32) (s0 : Int32) : Mo Unit :=
    (if s0 = 0 then
    X2_rideBackwards_b69 t0 mi kh11 x0 x1 x2 x3 s0 x5 x6
    else
    bnd (ldK 0 x3 x6) fun v57 =>
    bnd (gA' x1 4 2) fun v59 =>
    bnd (ldK 0 v59 x5) fun v64 =>
    bnd (stK 0 x3 x6 (mx v57 v64)) fun _ =>
    X2_rideBackwards_b69 t0 mi kh11 x0 x1 x2 x3 s0 x5 x6)
set_option maxRecDepth 20000 in
theorem I_X2_rideBackwards_b44 {l : Launch} {g : GX} (hst : l.stackTraces = false) (x0 : Nat) (x1 : Nat) (x2 : Nat) (x3 : Nat) (x5 : Int32) (x6 : Int32) (s0 : Int32) (kh11 : Int32 → Int32 → Mo Unit) (hkh11 : ∀ (z4 : Int32) (z5 : Int32), I l g M_X2_rideBackwards cvU 11 [(0, .ref x0), (1, .ref x1), (2, .ref x2), (3, .ref x3), (4, .int z4), (5, .int z5)] [] (kh11 z4 z5)) : I l g M_X2_rideBackwards cvU 44 [(0, .ref x0), (1, .ref x1), (2, .ref x2), (3, .ref x3), (5, .int x5), (6, .int x6)] [.int s0] (X2_rideBackwards_b44 (gt0 g) (gmi g) kh11 x0 x1 x2 x3 x5 x6 s0) := by
  unfold X2_rideBackwards_b44
  refine I_istore 46 [(4, .int s0), (0, .ref x0), (1, .ref x1), (2, .ref x2), (3, .ref x3), (5, .int x5), (6, .int x6)] dX2_rideBackwards_44 rfl (by decide) rfl ?_
  refine I_iload 0 48 dX2_rideBackwards_46 rfl rfl ?_
  refine I_if_eq 69 51 dX2_rideBackwards_48 rfl rfl (fun _ => ?_) (fun _ => ?_)
  · refine I_sub [(0, .ref x0), (1, .ref x1), (2, .ref x2), (3, .ref x3), (4, .int s0), (5, .int x5), (6, .int x6)] [1, 2, 3, 4, 0, 5, 6] rfl ?_
    exact I_X2_rideBackwards_b69 hst x0 x1 x2 x3 s0 x5 x6 _ hkh11
  · refine I_aload_n 4 52 dX2_rideBackwards_51 rfl rfl rfl ?_
    refine I_iload 6 54 dX2_rideBackwards_52 rfl rfl ?_
    refine I_aload_n 4 55 dX2_rideBackwards_54 rfl rfl rfl ?_
    refine I_iload 6 57 dX2_rideBackwards_55 rfl rfl ?_
    refine I_iald 58 dX2_rideBackwards_57 rfl (fun v57 => ?_)
    refine I_aload_n 2 59 dX2_rideBackwards_58 rfl rfl rfl ?_
    refine I_getA 62 dX2_rideBackwards_59 rfl cl4 (by decide) wfl_242 sameF_rfl (fun v59 => ?_)
    refine I_iload 5 64 dX2_rideBackwards_62 rfl rfl ?_
    refine I_iald 65 dX2_rideBackwards_64 rfl (fun v64 => ?_)
    refine I_mmax 68 dX2_rideBackwards_65 rfl wml_268 (by decide) (Nat.le_of_ble_eq_true rfl) ?_
    refine I_iast 69 dX2_rideBackwards_68 rfl ?_
    refine I_sub [(0, .ref x0), (1, .ref x1), (2, .ref x2), (3, .ref x3), (4, .int s0), (5, .int x5), (6, .int x6)] [1, 2, 3, 4, 0, 5, 6] rfl ?_
    exact I_X2_rideBackwards_b69 hst x0 x1 x2 x3 s0 x5 x6 _ hkh11
def X2_rideBackwards_b43 (t0 mi : Nat) (kh11 : Int32 → Int32 → Mo Unit) (x0 : Nat) (x1 : Nat) (x2 : Nat) (x3 : Nat) (x5 : Int32) (x6 : Int32) : Mo Unit :=
    X2_rideBackwards_b44 t0 mi kh11 x0 x1 x2 x3 x5 x6 (0 : Int32)
set_option maxRecDepth 20000 in
theorem I_X2_rideBackwards_b43 {l : Launch} {g : GX} (hst : l.stackTraces = false) (x0 : Nat) (x1 : Nat) (x2 : Nat) (x3 : Nat) (x5 : Int32) (x6 : Int32) (kh11 : Int32 → Int32 → Mo Unit) (hkh11 : ∀ (z4 : Int32) (z5 : Int32), I l g M_X2_rideBackwards cvU 11 [(0, .ref x0), (1, .ref x1), (2, .ref x2), (3, .ref x3), (4, .int z4), (5, .int z5)] [] (kh11 z4 z5)) : I l g M_X2_rideBackwards cvU 43 [(0, .ref x0), (1, .ref x1), (2, .ref x2), (3, .ref x3), (5, .int x5), (6, .int x6)] [] (X2_rideBackwards_b43 (gt0 g) (gmi g) kh11 x0 x1 x2 x3 x5 x6) := by
  unfold X2_rideBackwards_b43
  refine I_iconst (0 : Int32) 44 dX2_rideBackwards_43 rfl (by decide) ?_
  refine I_sub [(0, .ref x0), (1, .ref x1), (2, .ref x2), (3, .ref x3), (5, .int x5), (6, .int x6)] [0, 1, 2, 3, 4, 5] rfl ?_
  exact I_X2_rideBackwards_b44 hst x0 x1 x2 x3 x5 x6 (0 : Int32) _ hkh11
def X2_rideBackwards_L11 (t0 mi : Nat) (x0 : Nat) (x1 : Nat) (x2 : Nat) (x3 : Nat) (kx : Mo Unit) : Nat → Int32 → Int32 → Mo Unit
  | 0, _, _ => flr
  | n + 1, x4, x5 =>
    (if x5 < 0 then
    kx
    else
    bnd (gA' x1 4 1) fun v17 =>
    bnd (ldK 0 v17 x5) fun v22 =>
    (if x4 = 0 then
    X2_rideBackwards_b43 t0 mi (X2_rideBackwards_L11 t0 mi x0 x1 x2 x3 kx n) x0 x1 x2 x3 x5 v22
    else
    bnd (vc x1 4 (f_X3_isFull t0 mi x1 x5)) fun v33 =>
    (if v33 = 0 then
    X2_rideBackwards_b44 t0 mi (X2_rideBackwards_L11 t0 mi x0 x1 x2 x3 kx n) x0 x1 x2 x3 x5 v22 (1 : Int32)
    else
    X2_rideBackwards_b43 t0 mi (X2_rideBackwards_L11 t0 mi x0 x1 x2 x3 kx n) x0 x1 x2 x3 x5 v22)))
set_option maxRecDepth 20000 in
theorem I_X2_rideBackwards_L11 {l : Launch} {g : GX} (hst : l.stackTraces = false) (x0 : Nat) (x1 : Nat) (x2 : Nat) (x3 : Nat) (kx : Mo Unit) (hkx : I l g M_X2_rideBackwards cvU 101 [] [] kx) : ∀ (n : Nat) (x4 : Int32) (x5 : Int32), I l g M_X2_rideBackwards cvU 11 [(0, .ref x0), (1, .ref x1), (2, .ref x2), (3, .ref x3), (4, .int x4), (5, .int x5)] [] (X2_rideBackwards_L11 (gt0 g) (gmi g) x0 x1 x2 x3 kx n x4 x5) := by
  intro n
  induction n with
  | zero => intro x4 x5; rw [X2_rideBackwards_L11]; exact I_flr
  | succ n ih =>
    intro x4 x5; rw [X2_rideBackwards_L11]
    refine I_iload 5 13 dX2_rideBackwards_11 rfl rfl ?_
    refine I_if_lt 101 16 dX2_rideBackwards_13 rfl rfl (fun _ => ?_) (fun _ => ?_)
    · refine I_sub [] [] rfl ?_
      exact hkx
    · refine I_aload_n 1 17 dX2_rideBackwards_16 rfl rfl rfl ?_
      refine I_getA 20 dX2_rideBackwards_17 rfl cl4 (by decide) wfl_243 sameF_rfl (fun v17 => ?_)
      refine I_iload 5 22 dX2_rideBackwards_20 rfl rfl ?_
      refine I_iald 23 dX2_rideBackwards_22 rfl (fun v22 => ?_)
      refine I_istore 25 [(6, .int v22), (0, .ref x0), (1, .ref x1), (2, .ref x2), (3, .ref x3), (4, .int x4), (5, .int x5)] dX2_rideBackwards_23 rfl (by decide) rfl ?_
      refine I_iload 5 27 dX2_rideBackwards_25 rfl rfl ?_
      refine I_if_eq 43 30 dX2_rideBackwards_27 rfl rfl (fun _ => ?_) (fun _ => ?_)
      · refine I_sub [(0, .ref x0), (1, .ref x1), (2, .ref x2), (3, .ref x3), (5, .int x5), (6, .int v22)] [1, 2, 3, 4, 6, 0] rfl ?_
        exact I_X2_rideBackwards_b43 hst x0 x1 x2 x3 x5 v22 _ ih
      · refine I_aload_n 2 31 dX2_rideBackwards_30 rfl rfl rfl ?_
        refine I_iload 6 33 dX2_rideBackwards_31 rfl rfl ?_
        refine I_callVi (As := [.int x5]) (rest := []) 36 (C_X3_isFull hst x1 x5) dX2_rideBackwards_33 rfl cl4 rfl (by decide) (Nat.le_of_ble_eq_true rfl) wcd_245 win_137 wml_246 wim_247 wse_248 ⟨by decide, by decide, pd_X3_isFull⟩ (fun x hx => by cases hx) (fun v33 => ?_)
        refine I_if_ne 43 39 dX2_rideBackwards_36 rfl rfl (fun _ => ?_) (fun _ => ?_)
        · refine I_iconst (1 : Int32) 40 dX2_rideBackwards_39 rfl (by decide) ?_
          refine I_goto 44 dX2_rideBackwards_40 rfl ?_
          refine I_sub [(0, .ref x0), (1, .ref x1), (2, .ref x2), (3, .ref x3), (5, .int x5), (6, .int v22)] [1, 2, 3, 4, 6, 0] rfl ?_
          exact I_X2_rideBackwards_b44 hst x0 x1 x2 x3 x5 v22 (1 : Int32) _ ih
        · refine I_sub [(0, .ref x0), (1, .ref x1), (2, .ref x2), (3, .ref x3), (5, .int x5), (6, .int v22)] [1, 2, 3, 4, 6, 0] rfl ?_
          exact I_X2_rideBackwards_b43 hst x0 x1 x2 x3 x5 v22 _ ih
def f_X2_rideBackwards (t0 mi : Nat) (x0 : Nat) (x1 : Nat) (x2 : Nat) (x3 : Nat) : Mo Unit :=
    bnd (gI x1 4 4) fun v4 =>
    X2_rideBackwards_L11 t0 mi x0 x1 x2 x3 (rt ()) FU (0 : Int32) (v4 - (1 : Int32))
set_option maxRecDepth 20000 in
theorem I_X2_rideBackwards {l : Launch} {g : GX} (hst : l.stackTraces = false) (x0 : Nat) (x1 : Nat) (x2 : Nat) (x3 : Nat) : I l g M_X2_rideBackwards cvU 0 [(0, .ref x0), (1, .ref x1), (2, .ref x2), (3, .ref x3)] [] (f_X2_rideBackwards (gt0 g) (gmi g) x0 x1 x2 x3) := by
  unfold f_X2_rideBackwards
  refine I_iconst (0 : Int32) 1 dX2_rideBackwards_0 rfl (by decide) ?_
  refine I_istore 3 [(4, .int (0 : Int32)), (0, .ref x0), (1, .ref x1), (2, .ref x2), (3, .ref x3)] dX2_rideBackwards_1 rfl (by decide) rfl ?_
  refine I_aload_n 2 4 dX2_rideBackwards_3 rfl rfl rfl ?_
  refine I_getI 7 dX2_rideBackwards_4 rfl cl4 (by decide) wfl_244 sameF_rfl (fun v4 => ?_)
  refine I_iconst (1 : Int32) 8 dX2_rideBackwards_7 rfl (by decide) ?_
  refine I_isub 9 dX2_rideBackwards_8 rfl ?_
  refine I_istore 11 [(5, .int (v4 - (1 : Int32))), (4, .int (0 : Int32)), (0, .ref x0), (1, .ref x1), (2, .ref x2), (3, .ref x3)] dX2_rideBackwards_9 rfl (by decide) rfl ?_
  refine I_sub [(0, .ref x0), (1, .ref x1), (2, .ref x2), (3, .ref x3), (4, .int (0 : Int32)), (5, .int (v4 - (1 : Int32)))] [2, 3, 4, 5, 1, 0] rfl ?_
  refine I_X2_rideBackwards_L11 hst x0 x1 x2 x3 _ ?_ FU (0 : Int32) (v4 - (1 : Int32))
  exact I_vret dX2_rideBackwards_101 rfl
theorem C_X2_rideBackwards {l : Launch} {g : GX} (hst : l.stackTraces = false) (x0 : Nat) (x1 : Nat) (x2 : Nat) (x3 : Nat) : Cs l g M_X2_rideBackwards cvU [.ref x0, .ref x1, .ref x2, .ref x3] (f_X2_rideBackwards (gt0 g) (gmi g) x0 x1 x2 x3) :=
  Cs_of_I [(0, .ref x0), (1, .ref x1), (2, .ref x2), (3, .ref x3)] rfl (by decide) hst (Nat.le_of_ble_eq_true rfl) rfl (I_X2_rideBackwards hst x0 x1 x2 x3)
/-! LunchMarks$Network.findLatest(III)V -/
abbrev M_X2_findLatest : MS := (yX2_findLatest, cX2_findLatest, 6, none, [], 3, 64)
theorem pd_X2_findLatest : (parseMethodDescriptor (mY M_X2_findLatest).desc).map (fun d => d.parameters.length) = some 3 := by decide +kernel
def X2_findLatest_b104 (t0 mi : Nat) (kh42 : Int32 → Mo Unit) (x0 : Nat) (x3 : Int32) (x4 : Int32) (x5 : Int32) : Mo Unit :=
    kh42 (x5 + 1)
set_option maxRecDepth 20000 in
theorem I_X2_findLatest_b104 {l : Launch} {g : GX} (hst : l.stackTraces = false) (x0 : Nat) (x3 : Int32) (x4 : Int32) (x5 : Int32) (kh42 : Int32 → Mo Unit) (hkh42 : ∀ (z5 : Int32), I l g M_X2_findLatest cvU 42 [(0, .ref x0), (3, .int x3), (4, .int x4), (5, .int z5)] [] (kh42 z5)) : I l g M_X2_findLatest cvU 104 [(0, .ref x0), (3, .int x3), (4, .int x4), (5, .int x5)] [] (X2_findLatest_b104 (gt0 g) (gmi g) kh42 x0 x3 x4 x5) := by
  unfold X2_findLatest_b104
  refine I_iinc 107 (x5 + 1) [(5, .int (x5 + 1)), (0, .ref x0), (3, .int x3), (4, .int x4)] 3 dX2_findLatest_104 rfl rfl rfl (by decide) rfl ?_
  refine I_goto 42 dX2_findLatest_107 rfl ?_
  refine I_sub [(0, .ref x0), (3, .int x3), (4, .int x4), (5, .int (x5 + 1))] [1, 2, 3, 0] rfl ?_
  exact hkh42 (x5 + 1)
def X2_findLatest_L42 (t0 mi : Nat) (x0 : Nat) (x3 : Int32) (x4 : Int32) (kx : Mo Unit) : Nat → Int32 → Mo Unit
  | 0, _ => flr
  | n + 1, x5 =>
    bnd (gA' x0 3 2) fun v45 =>
    bnd (vc v45 0 (f_Jx4a65c_size_8abf5 t0 mi v45)) fun v48 =>
    (if v48 ≤ x5 then
    kx
    else
    bnd (gA' x0 3 2) fun v55 =>
    bnd (vc v55 0 (f_Jx4a65c_get_915e3 t0 mi v55 x5)) fun v60 =>
    bnd (isC v60 4) fun _ =>
    bnd (gI v60 4 5) fun v66 =>
    (if v66 = 0 then
    bnd (gA' x0 3 2) fun v74 =>
    bnd (vc v74 0 (f_Jx4a65c_get_915e3 t0 mi v74 x5)) fun v79 =>
    bnd (isC v79 4) fun _ =>
    bnd (gA' x0 3 4) fun v86 =>
    bnd (ldR 4 v86 (x4 - (1 : Int32))) fun v93 =>
    bnd (gA' x0 3 4) fun v95 =>
    bnd (ldR 4 v95 x4) fun v100 =>
    bnd (vc x0 3 (f_X2_rideBackwards t0 mi x0 v79 v93 v100)) fun _ =>
    X2_findLatest_b104 t0 mi (X2_findLatest_L42 t0 mi x0 x3 x4 kx n) x0 x3 x4 x5
    else
    X2_findLatest_b104 t0 mi (X2_findLatest_L42 t0 mi x0 x3 x4 kx n) x0 x3 x4 x5))
set_option maxRecDepth 20000 in
theorem I_X2_findLatest_L42 {l : Launch} {g : GX} (hst : l.stackTraces = false) (x0 : Nat) (x3 : Int32) (x4 : Int32) (kx : Mo Unit) (hkx : I l g M_X2_findLatest cvU 110 [(0, .ref x0), (3, .int x3), (4, .int x4)] [] kx) : ∀ (n : Nat) (x5 : Int32), I l g M_X2_findLatest cvU 42 [(0, .ref x0), (3, .int x3), (4, .int x4), (5, .int x5)] [] (X2_findLatest_L42 (gt0 g) (gmi g) x0 x3 x4 kx n x5) := by
  intro n
  induction n with
  | zero => intro x5; rw [X2_findLatest_L42]; exact I_flr
  | succ n ih =>
    intro x5; rw [X2_findLatest_L42]
    refine I_iload 3 44 dX2_findLatest_42 rfl rfl ?_
    refine I_aload_n 0 45 dX2_findLatest_44 rfl rfl rfl ?_
    refine I_getA 48 dX2_findLatest_45 rfl cl3 (by decide) wfl_24 sameF_rfl (fun v45 => ?_)
    refine I_callVi (As := []) (rest := [.int x5]) 51 (C_Jx4a65c_size_8abf5 hst v45) dX2_findLatest_48 rfl cl0 rfl (by decide) (Nat.le_of_ble_eq_true rfl) wcd_131 win_20 wml_132 wim_133 wse_134 ⟨by decide, by decide, pd_Jx4a65c_size_8abf5⟩ (fun x hx => by cases hx) (fun v48 => ?_)
    refine I_icmp_ge 110 54 dX2_findLatest_51 rfl rfl (fun _ => ?_) (fun _ => ?_)
    · refine I_sub [(0, .ref x0), (3, .int x3), (4, .int x4)] [0, 1, 2] rfl ?_
      exact hkx
    · refine I_aload_n 0 55 dX2_findLatest_54 rfl rfl rfl ?_
      refine I_getA 58 dX2_findLatest_55 rfl cl3 (by decide) wfl_24 sameF_rfl (fun v55 => ?_)
      refine I_iload 3 60 dX2_findLatest_58 rfl rfl ?_
      refine I_callVa (As := [.int x5]) (rest := []) 63 (C_Jx4a65c_get_915e3 hst v55 x5) dX2_findLatest_60 rfl cl0 rfl (by decide) (Nat.le_of_ble_eq_true rfl) wcd_166 win_20 wml_258 wim_168 wse_169 ⟨by decide, by decide, pd_Jx4a65c_get_915e3⟩ (fun x hx => by cases hx) (fun v60 => ?_)
      refine I_cast 66 dX2_findLatest_63 rfl cl4 wcl_135 ?_
      refine I_getI 69 dX2_findLatest_66 rfl cl4 (by decide) wfl_259 sameF_rfl (fun v66 => ?_)
      refine I_if_ne 104 72 dX2_findLatest_69 rfl rfl (fun _ => ?_) (fun _ => ?_)
      · refine I_aload_n 0 73 dX2_findLatest_72 rfl rfl rfl ?_
        refine I_aload_n 0 74 dX2_findLatest_73 rfl rfl rfl ?_
        refine I_getA 77 dX2_findLatest_74 rfl cl3 (by decide) wfl_24 sameF_rfl (fun v74 => ?_)
        refine I_iload 3 79 dX2_findLatest_77 rfl rfl ?_
        refine I_callVa (As := [.int x5]) (rest := [.ref x0]) 82 (C_Jx4a65c_get_915e3 hst v74 x5) dX2_findLatest_79 rfl cl0 rfl (by decide) (Nat.le_of_ble_eq_true rfl) wcd_166 win_20 wml_258 wim_168 wse_169 ⟨by decide, by decide, pd_Jx4a65c_get_915e3⟩ (fun x hx => by cases hx) (fun v79 => ?_)
        refine I_cast 85 dX2_findLatest_82 rfl cl4 wcl_135 ?_
        refine I_aload_n 0 86 dX2_findLatest_85 rfl rfl rfl ?_
        refine I_getA 89 dX2_findLatest_86 rfl cl3 (by decide) wfl_27 sameF_rfl (fun v86 => ?_)
        refine I_iload 2 91 dX2_findLatest_89 rfl rfl ?_
        refine I_iconst (1 : Int32) 92 dX2_findLatest_91 rfl (by decide) ?_
        refine I_isub 93 dX2_findLatest_92 rfl ?_
        refine I_aald4 94 dX2_findLatest_93 rfl (fun v93 => ?_)
        refine I_aload_n 0 95 dX2_findLatest_94 rfl rfl rfl ?_
        refine I_getA 98 dX2_findLatest_95 rfl cl3 (by decide) wfl_27 sameF_rfl (fun v95 => ?_)
        refine I_iload 2 100 dX2_findLatest_98 rfl rfl ?_
        refine I_aald4 101 dX2_findLatest_100 rfl (fun v100 => ?_)
        refine I_callVv (As := [.ref v79, .ref v93, .ref v100]) (rest := []) 104 (C_X2_rideBackwards hst x0 v79 v93 v100) dX2_findLatest_101 rfl cl3 rfl (by decide) (Nat.le_of_ble_eq_true rfl) wcd_269 win_34 wml_270 wim_271 wse_272 ⟨by decide, by decide, pd_X2_rideBackwards⟩ (fun x hx => by cases hx) (fun _ => ?_)
        refine I_sub [(0, .ref x0), (3, .int x3), (4, .int x4), (5, .int x5)] [0, 1, 2, 3] rfl ?_
        exact I_X2_findLatest_b104 hst x0 x3 x4 x5 _ ih
      · refine I_sub [(0, .ref x0), (3, .int x3), (4, .int x4), (5, .int x5)] [0, 1, 2, 3] rfl ?_
        exact I_X2_findLatest_b104 hst x0 x3 x4 x5 _ ih
def X2_findLatest_L22 (t0 mi : Nat) (x0 : Nat) (x3 : Int32) (kx : Mo Unit) : Nat → Int32 → Mo Unit
  | 0, _ => flr
  | n + 1, x4 =>
    (if x3 ≤ x4 then
    kx
    else
    bnd (gA' x0 3 4) fun v29 =>
    bnd (ldR 4 v29 x4) fun v34 =>
    bnd (f_J7_fill_53178 t0 mi v34 (-1 : Int32)) fun _ =>
    X2_findLatest_L42 t0 mi x0 x3 x4 ((X2_findLatest_L22 t0 mi x0 x3 kx n) (x4 + 1)) FU (0 : Int32))
set_option maxRecDepth 20000 in
theorem I_X2_findLatest_L22 {l : Launch} {g : GX} (hst : l.stackTraces = false) (x0 : Nat) (x3 : Int32) (kx : Mo Unit) (hkx : I l g M_X2_findLatest cvU 116 [] [] kx) : ∀ (n : Nat) (x4 : Int32), I l g M_X2_findLatest cvU 22 [(0, .ref x0), (3, .int x3), (4, .int x4)] [] (X2_findLatest_L22 (gt0 g) (gmi g) x0 x3 kx n x4) := by
  intro n
  induction n with
  | zero => intro x4; rw [X2_findLatest_L22]; exact I_flr
  | succ n ih =>
    intro x4; rw [X2_findLatest_L22]
    refine I_iload 2 24 dX2_findLatest_22 rfl rfl ?_
    refine I_iload_n 1 25 dX2_findLatest_24 rfl rfl rfl ?_
    refine I_icmp_ge 116 28 dX2_findLatest_25 rfl rfl (fun _ => ?_) (fun _ => ?_)
    · refine I_sub [] [] rfl ?_
      exact hkx
    · refine I_aload_n 0 29 dX2_findLatest_28 rfl rfl rfl ?_
      refine I_getA 32 dX2_findLatest_29 rfl cl3 (by decide) wfl_27 sameF_rfl (fun v29 => ?_)
      refine I_iload 2 34 dX2_findLatest_32 rfl rfl ?_
      refine I_aald4 35 dX2_findLatest_34 rfl (fun v34 => ?_)
      refine I_iconst (-1 : Int32) 36 dX2_findLatest_35 rfl (by decide) ?_
      refine I_callSv (As := [.ref v34, .int (-1 : Int32)]) (rest := []) 39 (C_J7_fill_53178 hst v34 (-1 : Int32)) dX2_findLatest_36 rfl rfl (by decide) (Nat.le_of_ble_eq_true rfl) wcd_255 win_106 wml_256 wst_257 ⟨by decide, by decide, pd_J7_fill_53178⟩ (fun x hx => by cases hx) (fun _ => ?_)
      refine I_iconst (0 : Int32) 40 dX2_findLatest_39 rfl (by decide) ?_
      refine I_istore 42 [(5, .int (0 : Int32)), (0, .ref x0), (3, .int x3), (4, .int x4)] dX2_findLatest_40 rfl (by decide) rfl ?_
      refine I_sub [(0, .ref x0), (3, .int x3), (4, .int x4), (5, .int (0 : Int32))] [1, 2, 3, 0] rfl ?_
      refine I_X2_findLatest_L42 hst x0 x3 x4 _ ?_ FU (0 : Int32)
      refine I_iinc 113 (x4 + 1) [(4, .int (x4 + 1)), (0, .ref x0), (3, .int x3)] 2 dX2_findLatest_110 rfl rfl rfl (by decide) rfl ?_
      refine I_goto 22 dX2_findLatest_113 rfl ?_
      refine I_sub [(0, .ref x0), (3, .int x3), (4, .int (x4 + 1))] [1, 2, 0] rfl ?_
      exact ih (x4 + 1)
def f_X2_findLatest (t0 mi : Nat) (x0 : Nat) (x1 : Int32) (x2 : Int32) (x3 : Int32) : Mo Unit :=
    bnd (gA' x0 3 4) fun v1 =>
    bnd (ldR 4 v1 (0 : Int32)) fun v5 =>
    bnd (f_J7_fill_53178 t0 mi v5 (-1 : Int32)) fun _ =>
    bnd (gA' x0 3 4) fun v11 =>
    bnd (ldR 4 v11 (0 : Int32)) fun v15 =>
    bnd (stK 0 v15 x1 x2) fun _ =>
    X2_findLatest_L22 t0 mi x0 x3 (rt ()) FU (1 : Int32)
set_option maxRecDepth 20000 in
theorem I_X2_findLatest {l : Launch} {g : GX} (hst : l.stackTraces = false) (x0 : Nat) (x1 : Int32) (x2 : Int32) (x3 : Int32) : I l g M_X2_findLatest cvU 0 [(0, .ref x0), (1, .int x1), (2, .int x2), (3, .int x3)] [] (f_X2_findLatest (gt0 g) (gmi g) x0 x1 x2 x3) := by
  unfold f_X2_findLatest
  refine I_aload_n 0 1 dX2_findLatest_0 rfl rfl rfl ?_
  refine I_getA 4 dX2_findLatest_1 rfl cl3 (by decide) wfl_27 sameF_rfl (fun v1 => ?_)
  refine I_iconst (0 : Int32) 5 dX2_findLatest_4 rfl (by decide) ?_
  refine I_aald4 6 dX2_findLatest_5 rfl (fun v5 => ?_)
  refine I_iconst (-1 : Int32) 7 dX2_findLatest_6 rfl (by decide) ?_
  refine I_callSv (As := [.ref v5, .int (-1 : Int32)]) (rest := []) 10 (C_J7_fill_53178 hst v5 (-1 : Int32)) dX2_findLatest_7 rfl rfl (by decide) (Nat.le_of_ble_eq_true rfl) wcd_255 win_106 wml_256 wst_257 ⟨by decide, by decide, pd_J7_fill_53178⟩ (fun x hx => by cases hx) (fun _ => ?_)
  refine I_aload_n 0 11 dX2_findLatest_10 rfl rfl rfl ?_
  refine I_getA 14 dX2_findLatest_11 rfl cl3 (by decide) wfl_27 sameF_rfl (fun v11 => ?_)
  refine I_iconst (0 : Int32) 15 dX2_findLatest_14 rfl (by decide) ?_
  refine I_aald4 16 dX2_findLatest_15 rfl (fun v15 => ?_)
  refine I_iload_n 1 17 dX2_findLatest_16 rfl rfl rfl ?_
  refine I_iload_n 2 18 dX2_findLatest_17 rfl rfl rfl ?_
  refine I_iast 19 dX2_findLatest_18 rfl ?_
  refine I_iconst (1 : Int32) 20 dX2_findLatest_19 rfl (by decide) ?_
  refine I_istore 22 [(4, .int (1 : Int32)), (0, .ref x0), (1, .int x1), (2, .int x2), (3, .int x3)] dX2_findLatest_20 rfl (by decide) rfl ?_
  refine I_sub [(0, .ref x0), (3, .int x3), (4, .int (1 : Int32))] [1, 4, 0] rfl ?_
  refine I_X2_findLatest_L22 hst x0 x3 _ ?_ FU (1 : Int32)
  exact I_vret dX2_findLatest_116 rfl
theorem C_X2_findLatest {l : Launch} {g : GX} (hst : l.stackTraces = false) (x0 : Nat) (x1 : Int32) (x2 : Int32) (x3 : Int32) : Cs l g M_X2_findLatest cvU [.ref x0, .int x1, .int x2, .int x3] (f_X2_findLatest (gt0 g) (gmi g) x0 x1 x2 x3) :=
  Cs_of_I [(0, .ref x0), (1, .int x1), (2, .int x2), (3, .int x3)] rfl (by decide) hst (Nat.le_of_ble_eq_true rfl) rfl (I_X2_findLatest hst x0 x1 x2 x3)
/-! LunchMarks$Network.firstOff(LLunchMarks$Train;I[I)I -/
abbrev M_X2_firstOff : MS := (yX2_firstOff, cX2_firstOff, 5, (some .int), [], 1, 22)
theorem pd_X2_firstOff : (parseMethodDescriptor (mY M_X2_firstOff).desc).map (fun d => d.parameters.length) = some 3 := by decide +kernel
def X2_firstOff_L5 (t0 mi : Nat) (x0 : Nat) (x1 : Nat) (x3 : Nat) (kx : Mo Int32) : Nat → Int32 → Mo Int32
  | 0, _ => flr
  | n + 1, x4 =>
    bnd (gI x1 4 4) fun v8 =>
    (if v8 ≤ x4 then
    kx
    else
    bnd (vc x1 4 (f_X3_isFull t0 mi x1 (x4 - (1 : Int32)))) fun v19 =>
    (if v19 = 0 then
    bnd (vc x0 3 (f_X2_sortedAt t0 mi x0 x1 x4)) fun v29 =>
    bnd (gA' x1 4 1) fun v34 =>
    bnd (ldK 0 v34 x4) fun v39 =>
    bnd (ldK 0 x3 v39) fun v40 =>
    (if v40 < v29 then
    (X2_firstOff_L5 t0 mi x0 x1 x3 kx n) (x4 + 1)
    else
    rt x4)
    else
    kx))
set_option maxRecDepth 20000 in
theorem I_X2_firstOff_L5 {l : Launch} {g : GX} (hst : l.stackTraces = false) (x0 : Nat) (x1 : Nat) (x3 : Nat) (kx : Mo Int32) (hkx : I l g M_X2_firstOff cvI 53 [] [] kx) : ∀ (n : Nat) (x4 : Int32), I l g M_X2_firstOff cvI 5 [(0, .ref x0), (1, .ref x1), (3, .ref x3), (4, .int x4)] [] (X2_firstOff_L5 (gt0 g) (gmi g) x0 x1 x3 kx n x4) := by
  intro n
  induction n with
  | zero => intro x4; rw [X2_firstOff_L5]; exact I_flr
  | succ n ih =>
    intro x4; rw [X2_firstOff_L5]
    refine I_iload 3 7 dX2_firstOff_5 rfl rfl ?_
    refine I_aload_n 1 8 dX2_firstOff_7 rfl rfl rfl ?_
    refine I_getI 11 dX2_firstOff_8 rfl cl4 (by decide) wfl_244 sameF_rfl (fun v8 => ?_)
    refine I_icmp_ge 53 14 dX2_firstOff_11 rfl rfl (fun _ => ?_) (fun _ => ?_)
    · refine I_sub [] [] rfl ?_
      exact hkx
    · refine I_aload_n 1 15 dX2_firstOff_14 rfl rfl rfl ?_
      refine I_iload 3 17 dX2_firstOff_15 rfl rfl ?_
      refine I_iconst (1 : Int32) 18 dX2_firstOff_17 rfl (by decide) ?_
      refine I_isub 19 dX2_firstOff_18 rfl ?_
      refine I_callVi (As := [.int (x4 - (1 : Int32))]) (rest := []) 22 (C_X3_isFull hst x1 (x4 - (1 : Int32))) dX2_firstOff_19 rfl cl4 rfl (by decide) (Nat.le_of_ble_eq_true rfl) wcd_245 win_137 wml_246 wim_247 wse_248 ⟨by decide, by decide, pd_X3_isFull⟩ (fun x hx => by cases hx) (fun v19 => ?_)
      refine I_if_ne 53 25 dX2_firstOff_22 rfl rfl (fun _ => ?_) (fun _ => ?_)
      · refine I_aload_n 0 26 dX2_firstOff_25 rfl rfl rfl ?_
        refine I_aload_n 1 27 dX2_firstOff_26 rfl rfl rfl ?_
        refine I_iload 3 29 dX2_firstOff_27 rfl rfl ?_
        refine I_callVi (As := [.ref x1, .int x4]) (rest := []) 32 (C_X2_sortedAt hst x0 x1 x4) dX2_firstOff_29 rfl cl3 rfl (by decide) (Nat.le_of_ble_eq_true rfl) wcd_249 win_34 wml_250 wim_251 wse_252 ⟨by decide, by decide, pd_X2_sortedAt⟩ (fun x hx => by cases hx) (fun v29 => ?_)
        refine I_aload_n 2 33 dX2_firstOff_32 rfl rfl rfl ?_
        refine I_aload_n 1 34 dX2_firstOff_33 rfl rfl rfl ?_
        refine I_getA 37 dX2_firstOff_34 rfl cl4 (by decide) wfl_243 sameF_rfl (fun v34 => ?_)
        refine I_iload 3 39 dX2_firstOff_37 rfl rfl ?_
        refine I_iald 40 dX2_firstOff_39 rfl (fun v39 => ?_)
        refine I_iald 41 dX2_firstOff_40 rfl (fun v40 => ?_)
        refine I_icmp_gt 47 44 dX2_firstOff_41 rfl rfl (fun _ => ?_) (fun _ => ?_)
        · refine I_iinc 50 (x4 + 1) [(4, .int (x4 + 1)), (0, .ref x0), (1, .ref x1), (3, .ref x3)] 3 dX2_firstOff_47 rfl rfl rfl (by decide) rfl ?_
          refine I_goto 5 dX2_firstOff_50 rfl ?_
          refine I_sub [(0, .ref x0), (1, .ref x1), (3, .ref x3), (4, .int (x4 + 1))] [1, 2, 3, 0] rfl ?_
          exact ih (x4 + 1)
        · refine I_iload 3 46 dX2_firstOff_44 rfl rfl ?_
          exact I_iret dX2_firstOff_46 rfl
      · refine I_sub [] [] rfl ?_
        exact hkx
def f_X2_firstOff (t0 mi : Nat) (x0 : Nat) (x1 : Nat) (x2 : Int32) (x3 : Nat) : Mo Int32 :=
    X2_firstOff_L5 t0 mi x0 x1 x3 (rt (-1 : Int32)) FU (x2 + (1 : Int32))
set_option maxRecDepth 20000 in
theorem I_X2_firstOff {l : Launch} {g : GX} (hst : l.stackTraces = false) (x0 : Nat) (x1 : Nat) (x2 : Int32) (x3 : Nat) : I l g M_X2_firstOff cvI 0 [(0, .ref x0), (1, .ref x1), (2, .int x2), (3, .ref x3)] [] (f_X2_firstOff (gt0 g) (gmi g) x0 x1 x2 x3) := by
  unfold f_X2_firstOff
  refine I_iload_n 2 1 dX2_firstOff_0 rfl rfl rfl ?_
  refine I_iconst (1 : Int32) 2 dX2_firstOff_1 rfl (by decide) ?_
  refine I_iadd 3 dX2_firstOff_2 rfl ?_
  refine I_istore 5 [(4, .int (x2 + (1 : Int32))), (0, .ref x0), (1, .ref x1), (2, .int x2), (3, .ref x3)] dX2_firstOff_3 rfl (by decide) rfl ?_
  refine I_sub [(0, .ref x0), (1, .ref x1), (3, .ref x3), (4, .int (x2 + (1 : Int32)))] [1, 2, 4, 0] rfl ?_
  refine I_X2_firstOff_L5 hst x0 x1 x3 _ ?_ FU (x2 + (1 : Int32))
  refine I_iconst (-1 : Int32) 54 dX2_firstOff_53 rfl (by decide) ?_
  exact I_iret dX2_firstOff_54 rfl
theorem C_X2_firstOff {l : Launch} {g : GX} (hst : l.stackTraces = false) (x0 : Nat) (x1 : Nat) (x2 : Int32) (x3 : Nat) : Cs l g M_X2_firstOff cvI [.ref x0, .ref x1, .int x2, .ref x3] (f_X2_firstOff (gt0 g) (gmi g) x0 x1 x2 x3) :=
  Cs_of_I [(0, .ref x0), (1, .ref x1), (2, .int x2), (3, .ref x3)] rfl (by decide) hst (Nat.le_of_ble_eq_true rfl) rfl (I_X2_firstOff hst x0 x1 x2 x3)
