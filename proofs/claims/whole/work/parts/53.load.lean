/-! loads: the reference's load0 and leadOn, the class's giveUp -/
section LOAD
variable {σ κ τ μ : SG} {z : BB} {w : PS}
theorem lod_lg {i t on off : Nat} {d : Int32} {x : LG} : lodS (lgS σ i x) t on off d = lgS (lodS σ t on off d) i x := by
  funext a b c
  by_cases h7 : a = 7
  · subst h7
    rw [lg_7]
    unfold lodS
    simp only [lg_7]
  · rw [lod_ne h7]
    simp only [lgS, us_at, lod_ne h7, lod_ne (σ := σ) (x := 9) (show 9 ≠ 7 by decide)]
theorem addG_lod {i t on off : Nat} {d : Int32} : ∀ (L : List LG) (σ : SG), addG (lodS σ t on off d) i L = lodS (addG σ i L) t on off d
  | [], _ => rfl
  | x :: l, σ => by
    show addG (lgS (lodS σ t on off d) i x) i l = lodS (addG (lgS σ i x) i l) t on off d
    rw [← lod_lg, addG_lod l]
theorem addAll_eq {i : Nat} : ∀ (L : List LG) (σ : SG), addAll σ i L = lodL (addG σ i L) L
  | [], _ => rfl
  | x :: l, σ => by
    show addAll (lgS (lodS σ x.1 x.2.1 x.2.2 1) i x) i l = lodL (lodS (addG (lgS σ i x) i l) x.1 x.2.1 x.2.2 1) l
    rw [addAll_eq l, ← lod_lg, addG_lod]
theorem lodL_ne : ∀ (L : List LG) (σ : SG) {a b c : Nat}, a ≠ 7 → lodL σ L a b c = σ a b c
  | [], _, _, _, _, _ => rfl
  | x :: l, σ, a, b, c, h => by
    show lodL (lodS σ x.1 x.2.1 x.2.2 1) l a b c = _
    rw [lodL_ne l _ h, lod_ne h]
def LA (σ : SG) (i : Nat) : Nat → List LG → Prop
  | _, [] => True
  | j, x :: l => (σ 10 i (3 * j) = x.1 ∧ σ 10 i (3 * j + 1) = x.2.1 ∧ σ 10 i (3 * j + 2) = x.2.2) ∧ LA σ i (j + 1) l
theorem LA_cong {i : Nat} {σ' : SG} (h : ∀ q, σ' 10 i q = σ 10 i q) : ∀ (L : List LG) (j : Nat), LA σ i j L → LA σ' i j L
  | [], _, _ => trivial
  | x :: l, j, ⟨a, b⟩ => ⟨by rw [h, h, h]; exact a, LA_cong h l _ b⟩
theorem lodR_L {i : Nat} : ∀ (L : List LG) (σ : SG) (j : Nat), LA σ i j L → lodR σ i 1 j L.length = lodL σ L
  | [], _, _, _ => rfl
  | x :: l, σ, j, ⟨a, b⟩ => by
    show lodR (lodS σ (σ 10 i (3 * j)) (σ 10 i (3 * j + 1)) (σ 10 i (3 * j + 2)) 1) i 1 (j + 1) l.length = lodL (lodS σ x.1 x.2.1 x.2.2 1) l
    rw [a.1, a.2.1, a.2.2]
    exact lodR_L l _ _ (LA_cong (fun q => lod_ne (by decide)) l _ b)
theorem addG_keep {i : Nat} : ∀ (L : List LG) (σ : SG) {q : Nat}, q < 3 * σ 9 i 2 → addG σ i L 10 i q = σ 10 i q
  | [], _, _, _ => rfl
  | x :: l, σ, q, h => by
    show addG (lgS σ i x) i l 10 i q = _
    rw [addG_keep l _ (by rw [lg_many]; omega)]
    simp only [lgS, us_at]
    rw [if_neg (fun e => by omega), if_neg (fun e => by omega), if_neg (fun e => by omega), if_neg (fun e => by omega)]
theorem LA_addG {i : Nat} : ∀ (L : List LG) (σ : SG), LA (addG σ i L) i (σ 9 i 2) L
  | [], _ => trivial
  | x :: l, σ => by
    have fl := lg_leg (σ := σ) (i := i) (x := x)
    have fm := lg_many (σ := σ) (i := i) (x := x)
    refine ⟨⟨?_, ?_, ?_⟩, ?_⟩
    · show addG (lgS σ i x) i l 10 i _ = _
      rw [addG_keep l _ (by rw [fm]; omega)]; exact fl.1
    · show addG (lgS σ i x) i l 10 i _ = _
      rw [addG_keep l _ (by rw [fm]; omega)]; exact fl.2.1
    · show addG (lgS σ i x) i l 10 i _ = _
      rw [addG_keep l _ (by rw [fm]; omega)]; exact fl.2.2
    · have := LA_addG (i := i) l (lgS σ i x)
      rw [fm] at this
      exact this
theorem addG_many {i : Nat} : ∀ (L : List LG) (σ : SG), addG σ i L 9 i 2 = σ 9 i 2 + L.length
  | [], _ => rfl
  | x :: l, σ => by
    show addG (lgS σ i x) i l 9 i 2 = _
    rw [addG_many l, lg_many, List.length_cons]
    omega
theorem end_lod {i T t on off : Nat} {d : Int32} : lodS (endS σ i T) t on off d = endS (lodS σ t on off d) i T := by
  funext a b c
  by_cases h7 : a = 7
  · subst h7
    simp [lodS, endS, us]
  · rw [lod_ne h7]
    simp only [endS, us_at, lod_ne h7]
theorem lodR_end {i T : Nat} {d : Int32} : ∀ (n j : Nat) (σ : SG), lodR (endS σ i T) i d j n = endS (lodR σ i d j n) i T
  | 0, _, _ => rfl
  | n + 1, j, σ => by
    have e : ∀ q, endS σ i T 10 i q = σ 10 i q := fun q => by simp [endS, us]
    show lodR (lodS (endS σ i T) (endS σ i T 10 i (3 * j)) (endS σ i T 10 i (3 * j + 1)) (endS σ i T 10 i (3 * j + 2)) d) i d (j + 1) n = _
    rw [e, e, e, end_lod, lodR_end n]
    rfl
theorem lodR_ne {i : Nat} {d : Int32} : ∀ (n j : Nat) (σ : SG) {a b c : Nat}, a ≠ 7 → lodR σ i d j n a b c = σ a b c
  | 0, _, _, _, _, _, _ => rfl
  | n + 1, j, σ, a, b, c, h => by
    show lodR (lodS σ _ _ _ d) i d (j + 1) n a b c = _
    rw [lodR_ne n _ _ h, lod_ne h]
/-- the legs from j on are within their trains -/
def LV (σ : SG) (i j : Nat) : Prop := ∀ j', j ≤ j' → j' < σ 9 i 2 → σ 10 i (3 * j') < σ 0 2 0 ∧ σ 10 i (3 * j' + 1) ≤ σ 10 i (3 * j' + 2) ∧ σ 10 i (3 * j' + 2) ≤ 10 ∧ σ 0 2 0 ≤ 16
theorem LV.lod {i j t on off : Nat} {d : Int32} (h : LV σ i j) : LV (lodS σ t on off d) i (j + 1) := by
  intro j' h1 h2
  rw [lod_ne (by decide)] at h2
  rw [lod_ne (by decide), lod_ne (by decide), lod_ne (by decide), lod_ne (by decide)]
  exact h j' (by omega) h2
theorem L_load31 {i j : Nat} {x1 x4 : Int32} {d : Int32} (hi : i < 120) (hj : j < 3) (ht : τ 10 i (3 * j) < 16) (hoff : τ 10 i (3 * j + 2) ≤ 10) {kx : PM Unit} {Q : Unit → PS → Prop} {E : String → PS → Prop}
    (hk : ∀ w, Wd σ κ (lodS τ (τ 10 i (3 * j)) (τ 10 i (3 * j + 1)) (τ 10 i (3 * j + 2)) d) μ z w → Rx kx w Q E) :
    ∀ (f k : Nat) (w : PS), τ 10 i (3 * j + 2) < f + k → τ 10 i (3 * j + 1) ≤ k → k ≤ τ 10 i (3 * j + 2) → Wd σ κ (lodS τ (τ 10 i (3 * j)) (τ 10 i (3 * j + 1)) k d) μ z w → Rx (p_X6_load0_L31 x1 d x4 (nI (3 * i + j)) kx f (nI k)) w Q E := by
  intro f
  induction f with
  | zero => intro k w h1 h2 h3; omega
  | succ f ih =>
    intro k w h1 h2 h3 hw
    have e10 : ∀ q, lodS τ (τ 10 i (3 * j)) (τ 10 i (3 * j + 1)) k d 10 i q = τ 10 i q := fun q => lod_ne (by decide)
    rw [p_X6_load0_L31]
    refine Rx_rd (g_chk7 hw) ?_
    refine Rx_rd (h_legF hw hi hj) ?_
    rw [e10]
    refine Rx_if (fun h => ?_) (fun h => ?_)
    · simp (disch := omega) only [nL_0, nL_1, nL_2, nL_3, nL_4, nL_5, nL_6, nL_7, nL_10, nL_16, nL_31, nL_40, nL_60, nL_120, nL_160, nL_1439, nL_1000000, nL_10000000, nL_268435456, nI_ltI, nI_leI, nI_eq, Int32.not_lt, Int32.not_le, Nat.not_lt, Nat.not_le, m1_eqn, m1_eqm, nI_nem, ge_iff_le, gt_iff_lt] at h
      have : k = τ 10 i (3 * j + 2) := by omega
      rw [this] at hw
      exact hk w hw
    · simp (disch := omega) only [nL_0, nL_1, nL_2, nL_3, nL_4, nL_5, nL_6, nL_7, nL_10, nL_16, nL_31, nL_40, nL_60, nL_120, nL_160, nL_1439, nL_1000000, nL_10000000, nL_268435456, nI_ltI, nI_leI, nI_eq, Int32.not_lt, Int32.not_le, Nat.not_lt, Nat.not_le, m1_eqn, m1_eqm, nI_nem, ge_iff_le, gt_iff_lt] at h
      refine Rx_rd (g_chk7 hw) ?_
      refine Rx_rd (g_chk7 hw) ?_
      refine Rx_rd (h_legT hw hi hj) ?_
      rw [e10]
      refine Rx_rd (r_node hw) ?_
      refine Rx_rd (h_load hw ht (by omega)) ?_
      refine Rx_set (t_load hw ht (by omega)) (fun w1 hw1 => ?_)
      rw [lod_step h2] at hw1
      first | rw [nI_1] | rw [nL_1, nI_add]
      exact ih (k + 1) w1 (by omega) (by omega) (by omega) hw1
theorem L_load3 {i : Nat} {d : Int32} (hi : i < 120) {kx : PM Unit} {Q : Unit → PS → Prop} {E : String → PS → Prop} :
    ∀ (n f j : Nat) (τ : SG) (w : PS), j + n = τ 9 i 2 → τ 9 i 2 ≤ 3 → n ≤ f → LV τ i j → Wd σ κ τ μ z w → (∀ w', Wd σ κ (lodR τ i d j n) μ z w' → Rx kx w' Q E) → Rx (p_X6_load0_L3 (nI i) d kx (f + 1) (nI j)) w Q E := by
  intro n
  induction n with
  | zero =>
    intro f j τ w h1 h2 h3 hv hw hk
    rw [p_X6_load0_L3]
    refine Rx_rd (g_chk7 hw) ?_
    refine Rx_rd (h_many hw hi) ?_
    exact Rx_pos (by rw [nI_leI (by omega) (by omega)]; omega) (hk w hw)
  | succ n ih =>
    intro f j τ w h1 h2 h3 hv hw hk
    have hl := hv j (Nat.le_refl _) (by omega)
    rw [p_X6_load0_L3]
    refine Rx_rd (g_chk7 hw) ?_
    refine Rx_rd (h_many hw hi) ?_
    refine Rx_neg (by rw [nI_leI (by omega) (by omega)]; omega) ?_
    refine Rx_rd (r_legAt hw) ?_
    refine Rx_rd (g_chk7 hw) ?_
    refine Rx_rd (h_legN hw hi (by omega)) ?_
    obtain ⟨f', rfl⟩ : ∃ f', f = f' + 1 := ⟨f - 1, by omega⟩
    refine L_load31 hi (by omega) (by omega) hl.2.2.1 (fun w1 hw1 => ?_) FU _ w (by unfold FU; omega) (Nat.le_refl _) hl.2.1 (by rw [lod_nil (Nat.le_refl _)]; exact hw)
    first | rw [nI_1] | rw [nL_1, nI_add]
    exact ih f' (j + 1) _ w1 (by rw [lod_ne (by decide)]; omega) (by rw [lod_ne (by decide)]; omega) (by omega) hv.lod hw1 hk
theorem R_load0 (hw : Wd σ κ τ μ z w) {i j : Nat} {d : Int32} (hi : i < 120) (hj : j ≤ τ 9 i 2) (hm : τ 9 i 2 ≤ 3) (hv : LV τ i j) : Rx (p_X6_load0 (nI i) (nI j) d) w (fun _ w' => Wd σ κ (lodR τ i d j (τ 9 i 2 - j)) μ z w') NE := by
  unfold p_X6_load0
  exact L_load3 (f := 4095) hi (τ 9 i 2 - j) j τ w (by omega) hm (by omega) hv hw (fun w' hw' => Rx_rt hw')
theorem R_MleadOn (wt : WF τ) (hw : Wd σ κ τ μ z w) {b s m : Nat} (hb : b < 60) (hs : s < 10) (hm : m < 1000000) (hhm : HM μ) (hwf : ∀ τ', leadF τ (cur τ b) s m = some τ' → WF τ') : Rx (p_X6_leadOn (nI b) (nI s) (nI m)) w (fun v w' => ∃ μ', KM3 μ' μ ∧ HM μ' ∧ ((leadF τ (cur τ b) s m = none ∧ v = 0 ∧ Wd σ κ τ μ' z w') ∨ ∃ τ', leadF τ (cur τ b) s m = some τ' ∧ v = 1 ∧ Wd σ κ τ' μ' z w')) NE := by
  have hi := cur_lt wt hb
  have hmany := (wt.way (cur τ b)).2.1
  unfold p_X6_leadOn
  refine Rx_assoc ?_
  refine Rx_rd (g_chk7 hw) ?_
  refine Rx_rd (r_Mway hw wt hb) ?_
  refine Rx_rd (g_chk7 hw) ?_
  refine Rx_rd (h_many hw hi) ?_
  refine Rx_assoc ?_
  refine Rx_rd (g_chk7 hw) ?_
  refine Rx_cn (R_lead wt hw hb hs hm hhm) (fun v w1 ⟨μ1, km, hh, hor⟩ => ?_)
  rcases hor with ⟨e1, rfl, hw1⟩ | ⟨T, N, e1, rfl, hw1⟩
  · refine Rx_assoc ?_
    refine Rx_rd (g_chk7 hw1) ?_
    refine Rx_cn (R_load0 hw1 hi (Nat.le_refl _) hmany (fun j' a b => by omega)) (fun _ w2 hw2 => ?_)
    rw [Nat.sub_self] at hw2
    refine Rx_rtZ0 ⟨μ1, km, hh, Or.inl ⟨?_, rfl, hw2⟩⟩
    unfold leadF
    rw [e1]
  · have e2 : leadF τ (cur τ b) s m = some (endS (addAll τ (cur τ b) (legsS τ (toS τ (cur τ b)) T N s m)) (cur τ b) T) := by
      unfold leadF
      rw [e1]
    have wf' := hwf _ e2
    have em : endS (addG τ (cur τ b) (legsS τ (toS τ (cur τ b)) T N s m)) (cur τ b) T 9 (cur τ b) 2 = τ 9 (cur τ b) 2 + (legsS τ (toS τ (cur τ b)) T N s m).length := by
      rw [← addG_many]
      simp [endS, us]
    have eq9 : ∀ a y q, a ≠ 7 → endS (addAll τ (cur τ b) (legsS τ (toS τ (cur τ b)) T N s m)) (cur τ b) T a y q = endS (addG τ (cur τ b) (legsS τ (toS τ (cur τ b)) T N s m)) (cur τ b) T a y q := by
      intro a y q ha
      rw [addAll_eq]
      simp only [endS, us_at, lodL_ne _ _ ha]
    have hlv : LV (endS (addG τ (cur τ b) (legsS τ (toS τ (cur τ b)) T N s m)) (cur τ b) T) (cur τ b) (τ 9 (cur τ b) 2) := by
      intro j' _ h2
      rw [← eq9 9 _ _ (by decide)] at h2
      have h3 := wf'.leg _ j' h2
      have h4 := wf'.tr
      have h5 := wf'.stops (endS (addAll τ (cur τ b) (legsS τ (toS τ (cur τ b)) T N s m)) (cur τ b) T 10 (cur τ b) (3 * j'))
      rw [← eq9 10 _ _ (by decide), ← eq9 10 _ _ (by decide), ← eq9 10 _ _ (by decide), ← eq9 0 _ _ (by decide)]
      omega
    have hm3 := (wf'.way (cur τ b)).2.1
    rw [eq9 9 _ _ (by decide)] at hm3
    refine Rx_assoc ?_
    refine Rx_rd (g_chk7 hw1) ?_
    refine Rx_cn (R_load0 hw1 hi (by rw [em]; omega) hm3 hlv) (fun _ w2 hw2 => ?_)
    rw [em, Nat.add_sub_cancel_left, lodR_end, lodR_L _ _ _ (LA_addG _ _), ← addAll_eq] at hw2
    exact Rx_rtZ1 ⟨μ1, km, hh, Or.inr ⟨_, e2, rfl, hw2⟩⟩
/-- legs from leg on are given up; no way any more -/
def giveR (σ : SG) (i leg : Nat) : SG := us (us (lodR σ i (-1) leg (σ 9 i 2 - leg)) 9 i 2 leg) 9 i 5 0
/-- where and since when a box waits that has kept so many legs -/
def wtS (σ : SG) (i : Nat) : Nat := if σ 9 i 2 = 0 then fromS σ i else σ 5 (σ 10 i (3 * (σ 9 i 2 - 1))) (σ 10 i (3 * (σ 9 i 2 - 1) + 2))
theorem L_give {i : Nat} {x2 x3 : Int32} {kx : PM Unit} {Q : Unit → PS → Prop} {E : String → PS → Prop} :
    ∀ (n f j : Nat) (σ : SG) (w : PS), j + n = σ 9 i 2 → σ 9 i 2 ≤ 3 → n ≤ f → LV σ i j → okW σ i → Wd σ κ τ μ z w → (∀ w', Wd (lodR σ i (-1) j n) κ τ μ z w' → Rx kx w' Q E) → Rx (p_X2_giveUp_L3 i x2 x3 kx (f + 1) (nI j)) w Q E := by
  intro n
  induction n with
  | zero =>
    intro f j σ w h1 h2 h3 hv hi hw hk
    rw [p_X2_giveUp_L3]
    refine Rx_rd (g_many hw hi) ?_
    exact Rx_pos (by rw [nI_leI (by omega) (by omega)]; omega) (hk w hw)
  | succ n ih =>
    intro f j σ w h1 h2 h3 hv hi hw hk
    have hl := hv j (Nat.le_refl _) (by omega)
    have ht := hl.1
    rw [p_X2_giveUp_L3]
    refine Rx_rd (g_many hw hi) ?_
    refine Rx_neg (by rw [nI_leI (by omega) (by omega)]; omega) ?_
    refine Rx_rd (g_chk3 hw) ?_
    refine Rx_assoc ?_
    refine Rx_rd (g_chk5 hw hi) ?_
    refine Rx_rd (r_legNumber (c := 0) hw hi (by omega)) ?_
    rw [Nat.add_zero]
    refine Rx_assoc ?_
    refine Rx_rd (g_chk0 hw) ?_
    refine Rx_rd (g_gt0 hw ht) ?_
    rw [nI_clamp (by omega)]
    refine Rx_rd (g_chk4 hw ht) ?_
    refine Rx_assoc ?_
    refine Rx_rd (g_chk5 hw hi) ?_
    refine Rx_rd (r_legNumber (c := 1) hw hi (by omega)) ?_
    refine Rx_assoc ?_
    refine Rx_rd (g_chk5 hw hi) ?_
    refine Rx_rd (r_legNumber (c := 2) hw hi (by omega)) ?_
    refine Rx_assoc ?_
    refine Rx_rd (g_chk4 hw ht) ?_
    refine Rx_cn (R_changeLoads hw ht hl.2.1 hl.2.2.1) (fun _ w1 hw1 => ?_)
    obtain ⟨f', rfl⟩ : ∃ f', f = f' + 1 := ⟨f - 1, by omega⟩
    rw [nI_1]
    exact ih f' (j + 1) _ w1 (by rw [lod_ne (by decide)]; omega) (by rw [lod_ne (by decide)]; omega) (by omega) hv.lod (okW_lod hi) hw1 hk
theorem LV_wf (wf : WF σ) (i j : Nat) : LV σ i j := by
  intro j' _ h
  have h1 := wf.leg i j' h
  have h2 := wf.stops (σ 10 i (3 * j'))
  have h3 := wf.tr
  omega
theorem give_x {i leg : Nat} : SameX i (giveR σ i leg) σ := by
  intro x y q h7 h
  unfold giveR
  rw [us_at, us_at, if_neg (fun e => h ⟨Or.inl e.1, e.2.1⟩), if_neg (fun e => h ⟨Or.inl e.1, e.2.1⟩), lodR_ne _ _ _ h7]
theorem lodR_load (wf : WF σ) {i : Nat} {d : Int32} : ∀ (n j : Nat) (σ1 : SG), (∀ a b c, a ≠ 7 → σ1 a b c = σ a b c) → j + n = σ 9 i 2 → (∀ t k, σ 3 t 0 ≤ k → dL (σ1 7 t k) = 0) → ∀ t k, σ 3 t 0 ≤ k → dL (lodR σ1 i d j n 7 t k) = 0
  | 0, _, _, _, _, h => h
  | n + 1, j, σ1, hs, hj, h => by
    have hl := wf.leg i j (by omega)
    refine lodR_load wf n (j + 1) _ (fun a b c ha => by rw [lod_ne ha]; exact hs a b c ha) (by omega) (fun t k hk => ?_)
    unfold lodS
    split
    · rename_i q
      exfalso
      have h1 := q.2.2.2
      have h2 := q.2.1
      rw [hs 10 _ _ (by decide)] at h1 h2
      subst h2
      omega
    · exact h t k hk
theorem WF_give (wf : WF σ) {i leg : Nat} (hi : okW σ i) (hl : leg ≤ σ 9 i 2) : WF (giveR σ i leg) := by
  have f2 : giveR σ i leg 9 i 2 = leg := by simp [giveR, us]
  have f5 : giveR σ i leg 9 i 5 = 0 := by simp [giveR, us]
  have fo : ∀ q, q ≠ 2 → q ≠ 5 → giveR σ i leg 9 i q = σ 9 i q := by
    intro q h2 h5
    unfold giveR
    rw [us_at, us_at, if_neg (fun e => h5 e.2.2), if_neg (fun e => h2 e.2.2), lodR_ne _ _ _ (by decide)]
  have f10 : ∀ j, giveR σ i leg 10 i j = σ 10 i j := by
    intro j
    unfold giveR
    rw [us_at, us_at, if_neg (fun e => by omega), if_neg (fun e => by omega), lodR_ne _ _ _ (by decide)]
  have f7 : ∀ t k, giveR σ i leg 7 t k = lodR σ i (-1) leg (σ 9 i 2 - leg) 7 t k := by
    intro t k
    unfold giveR
    rw [us_at, us_at, if_neg (fun e => by omega), if_neg (fun e => by omega)]
  have hw := wf.way i
  refine WF_upd wf give_x hi ?_ ?_ ?_ ?_ ?_ ?_ ?_
  · intro t k hk
    rw [f7]
    exact lodR_load wf _ _ σ (fun _ _ _ _ => rfl) (by omega) wf.load t k hk
  · rw [f2, f5, fo 0 (by decide) (by decide), fo 3 (by decide) (by decide), fo 4 (by decide) (by decide)]; omega
  · intro j hj; rw [f2] at hj; simp only [f10]; exact wf.leg i j (by omega)
  · intro j; rw [f10]; exact wf.legb i j
  · intro j hj; rw [f2] at hj; simp only [f10]; exact wf.chain i j (by omega)
  · rw [f2]; exact fun q => wf.ft i (by omega)
  · rw [f5]; exact fun q => absurd rfl q
theorem wt_le (wf : WF σ) (i : Nat) : wtS σ i < 10 := by
  unfold wtS
  split
  · exact (wf.fromb i).1
  · exact wf.sta _ _
/-- the class's giving up -/
theorem R_giveUp (wf : WF σ) (hw : Wd σ κ τ μ z w) {i leg n : Nat} (hi : okW σ i) (hl : leg ≤ σ 9 i 2) (hn : n < 1000000) : Rx (p_X2_giveUp i (nI leg) (nI n)) w (fun _ w' => Wd (standS (giveR σ i leg) i (wtS (giveR σ i leg) i) (max (thereS (giveR σ i leg) i) n)) κ τ μ z w') NE := by
  have hway := wf.way i
  unfold p_X2_giveUp
  refine L_give (f := 4095) (σ 9 i 2 - leg) leg σ w (by omega) (by omega) (by omega) (LV_wf wf i leg) hi hw (fun w1 hw1 => ?_)
  have hi1 : okW (lodR σ i (-1) leg (σ 9 i 2 - leg)) i := by
    unfold okW at hi ⊢
    rw [lodR_ne _ _ _ (by decide), lodR_ne _ _ _ (by decide)]
    exact hi
  refine Rx_set (s_many hw1 hi1) (fun w2 hw2 => ?_)
  have hi2 := okW_us (a := 9) (b := i) (c := 2) (v := leg) hi1 (by decide) (by decide)
  have hx : SameX i (us (lodR σ i (-1) leg (σ 9 i 2 - leg)) 9 i 2 leg) σ := by
    intro x y q h7 h
    rw [us_at, if_neg (fun e => h ⟨Or.inl e.1, e.2.1⟩), lodR_ne _ _ _ h7]
  have e10 : ∀ q, us (lodR σ i (-1) leg (σ 9 i 2 - leg)) 9 i 2 leg 10 i q = σ 10 i q := by
    intro q
    rw [us_at, if_neg (fun e => by omega), lodR_ne _ _ _ (by decide)]
  have ew := hx.way i
  have wfg := WF_give wf hi hl
  have f2 : giveR σ i leg 9 i 2 = leg := by simp [giveR, us]
  have f10 : ∀ j, giveR σ i leg 10 i j = σ 10 i j := by
    intro j
    unfold giveR
    rw [us_at, us_at, if_neg (fun e => by omega), if_neg (fun e => by omega), lodR_ne _ _ _ (by decide)]
  have eg := (give_x (σ := σ) (i := i) (leg := leg)).way i
  have egs := (give_x (σ := σ) (i := i) (leg := leg)).sr
  have eg5 : ∀ a b, giveR σ i leg 5 a b = σ 5 a b := fun a b => (give_x (σ := σ) (i := i) (leg := leg)).k (x := 5) _ _ (by decide) (by decide) (by decide)
  have es : ∀ s m, standS (us (lodR σ i (-1) leg (σ 9 i 2 - leg)) 9 i 2 leg) i s m = standS (giveR σ i leg) i s m := by
    intro s m
    funext a b c
    simp only [standS, giveR, us_at]
    by_cases q : a = 9 ∧ b = i ∧ c = 5
    · simp only [if_pos q]
    · simp only [if_neg q]
  refine Rx_if (fun h => ?_) (fun h => ?_)
  · simp (disch := omega) only [nL_0, nL_1, nL_2, nL_3, nL_4, nL_5, nL_6, nL_7, nL_10, nL_16, nL_31, nL_40, nL_60, nL_120, nL_160, nL_1439, nL_1000000, nL_10000000, nL_268435456, nI_ltI, nI_leI, nI_eq, Int32.not_lt, Int32.not_le, Nat.not_lt, Nat.not_le, m1_eqn, m1_eqm, nI_nem, ge_iff_le, gt_iff_lt] at h
    refine Rx_rd (g_from hw2 hi2) ?_
    have hb := wf.begb i
    have fb := wf.fromb i
    have hbeg : p_X2_beginning i w2 = some (.inl (nI (begS σ i)), w2) := by
      rw [← ew.2.2.2.2.2.2]
      refine Rx_un ?_
      have hf : fromS (us (lodR σ i (-1) leg (σ 9 i 2 - leg)) 9 i 2 leg) i < 10 := by rw [ew.1]; exact fb.1
      unfold p_X2_beginning
      refine Rx_rd (g_ready hw2 hi2) ?_
      refine Rx_rd (g_wfrom hw2 hi2) ?_
      refine Rx_rd (g_chk3 hw2) ?_
      refine Rx_rd (g_from hw2 hi2) ?_
      refine Rx_rd (g_sort hw2 hf) ?_
      rw [nI_add, nI_add]
      exact Rx_rt ⟨rfl, rfl⟩
    refine Rx_assoc ?_
    refine Rx_rd (g_chk3 hw2) ?_
    refine Rx_rd hbeg ?_
    rw [mx_nI (by omega) (by omega), ew.1]
    refine Rx_assoc ?_
    refine Rx_rd (g_chk5 hw2 hi2) ?_
    refine Rx_cn (R_standAt hw2 hi2) (fun _ w3 hw3 => Rx_rt ?_)
    rw [es] at hw3
    have e1 : wtS (giveR σ i leg) i = fromS σ i := by unfold wtS; rw [f2, if_pos h, eg.1]
    have e2 : thereS (giveR σ i leg) i = begS σ i := by unfold thereS; rw [f2, if_pos h, eg.2.2.2.2.2.2]
    rw [e1, e2]
    exact hw3
  · simp (disch := omega) only [nL_0, nL_1, nL_2, nL_3, nL_4, nL_5, nL_6, nL_7, nL_10, nL_16, nL_31, nL_40, nL_60, nL_120, nL_160, nL_1439, nL_1000000, nL_10000000, nL_268435456, nI_ltI, nI_leI, nI_eq, Int32.not_lt, Int32.not_le, Nat.not_lt, Nat.not_le, m1_eqn, m1_eqm, nI_nem, ge_iff_le, gt_iff_lt] at h
    have hlg := wf.leg i (leg - 1) (by omega)
    have h16 := wf.tr
    have hst := wf.stops (σ 10 i (3 * (leg - 1)))
    have hsr := wf.srtb (σ 10 i (3 * (leg - 1))) (σ 10 i (3 * (leg - 1) + 2))
    have k0 : us (lodR σ i (-1) leg (σ 9 i 2 - leg)) 9 i 2 leg 0 2 0 = σ 0 2 0 := hx.k (x := 0) _ _ (by decide) (by decide) (by decide)
    have k5 : ∀ a b, us (lodR σ i (-1) leg (σ 9 i 2 - leg)) 9 i 2 leg 5 a b = σ 5 a b := fun a b => hx.k (x := 5) _ _ (by decide) (by decide) (by decide)
    have ht : σ 10 i (3 * (leg - 1)) < us (lodR σ i (-1) leg (σ 9 i 2 - leg)) 9 i 2 leg 0 2 0 := by rw [k0]; exact hlg.1
    refine Rx_rd (g_chk3 hw2) ?_
    first | rw [nI_sub (by omega)] | rw [nL_1, nI_sub (by omega)]
    refine Rx_assoc ?_
    refine Rx_rd (g_chk5 hw2 hi2) ?_
    refine Rx_rd (r_legNumber (c := 0) hw2 hi2 (by omega)) ?_
    rw [Nat.add_zero, e10]
    refine Rx_assoc ?_
    refine Rx_rd (g_chk0 hw2) ?_
    refine Rx_rd (g_gt0 hw2 ht) ?_
    rw [nI_clamp (by omega)]
    refine Rx_rd (g_chk4 hw2 ht) ?_
    try rw [nI_sub (by omega)]
    refine Rx_assoc ?_
    refine Rx_rd (g_chk5 hw2 hi2) ?_
    refine Rx_rd (r_legNumber (c := 2) hw2 hi2 (by omega)) ?_
    rw [e10]
    refine Rx_rd (g_chk4 hw2 ht) ?_
    refine Rx_rd (g_sta hw2 ht (by omega)) ?_
    refine Rx_assoc ?_
    refine Rx_rd (g_chk3 hw2) ?_
    refine Rx_rd (r_sortedAt hw2 ht (by omega) (by rw [k5]; exact wf.sta _ _)) ?_
    rw [k5, hx.sr, mx_nI (by omega) (by omega)]
    refine Rx_assoc ?_
    refine Rx_rd (g_chk5 hw2 hi2) ?_
    refine Rx_cn (R_standAt hw2 hi2) (fun _ w3 hw3 => Rx_rt ?_)
    rw [es] at hw3
    have e1 : wtS (giveR σ i leg) i = σ 5 (σ 10 i (3 * (leg - 1))) (σ 10 i (3 * (leg - 1) + 2)) := by unfold wtS; rw [f2, if_neg h, f10, f10, eg5]
    have e2 : thereS (giveR σ i leg) i = srt σ (σ 10 i (3 * (leg - 1))) (σ 10 i (3 * (leg - 1) + 2)) := by unfold thereS; rw [f2, if_neg h, f10, f10, egs]
    rw [e1, e2]
    exact hw3
end LOAD
