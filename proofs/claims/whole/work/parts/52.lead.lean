/-! the reference reckons, leads, loads -/
def HM (μ : SG) : Prop := ∀ i, μ 0 i 0 ≤ 268435456 ∧ μ 1 i 0 ≤ 9
def KM3 (μ μ0 : SG) : Prop := ∀ a b c, 3 ≤ a → μ a b c = μ0 a b c
def RI (τ : SG) (to : Nat) (μ : SG) (l t k : Nat) : Prop := (∀ l', l' < l → VT τ to μ l') ∧ (∀ t' k', t' < τ 0 2 0 → k' < τ 3 t' 0 → (t' < t ∨ (t' = t ∧ k' < k)) → VAL τ to l (τ 5 t' k') (srt τ t' k') (μ 0 (vix l t' k') 0) (μ 1 (vix l t' k') 0)) ∧ HM μ
def addG (σ : SG) (w : Nat) : List LG → SG
  | [] => σ
  | x :: l => addG (lgS σ w x) w l
def lodR (σ : SG) (w : Nat) (d : Int32) : Nat → Nat → SG
  | _, 0 => σ
  | i, n + 1 => lodR (lodS σ (σ 10 w (3 * i)) (σ 10 w (3 * i + 1)) (σ 10 w (3 * i + 2)) d) w d (i + 1) n
def lodL (σ : SG) : List LG → SG
  | [] => σ
  | x :: l => lodL (lodS σ x.1 x.2.1 x.2.2 1) l
def SameL (τ1 τ : SG) : Prop := ∀ x y q, x ≠ 9 → x ≠ 10 → τ1 x y q = τ x y q
section CONG
variable {τ τ1 : SG}
theorem SameL.sr (h : SameL τ1 τ) (t k : Nat) : srt τ1 t k = srt τ t k := by
  unfold srt
  rw [h 6 t k (by decide) (by decide), h 5 t k (by decide) (by decide), h 1 _ 0 (by decide) (by decide)]
theorem SameL.lg (h : SameL τ1 τ) (t on off : Nat) : Leg τ1 t on off = Leg τ t on off := by
  unfold Leg freeS
  rw [h 0 2 0 (by decide) (by decide), h 3 t 0 (by decide) (by decide), h 4 t 0 (by decide) (by decide), h 2 t 0 (by decide) (by decide)]
  have : ∀ j, τ1 7 t j = τ 7 t j := fun j => h 7 t j (by decide) (by decide)
  simp only [this]
theorem SameL.re (h : SameL τ1 τ) (to : Nat) : ∀ (j s m a : Nat), reach τ1 to j s m a = reach τ to j s m a
  | 0, s, m, a => rfl
  | j + 1, s, m, a => by
    have h5 : ∀ t k, τ1 5 t k = τ 5 t k := fun t k => h 5 t k (by decide) (by decide)
    have h6 : ∀ t k, τ1 6 t k = τ 6 t k := fun t k => h 6 t k (by decide) (by decide)
    simp only [reach, h.lg, h5, h6, h.sr, SameL.re h to j]
theorem SameL.be (h : SameL τ1 τ) (to l s m T N : Nat) : isBest τ1 to l s m T N = isBest τ to l s m T N := by
  unfold isBest
  simp only [h.re]
theorem SameL.ok (h : SameL τ1 τ) (to T j s m : Nat) : OkL τ1 to T j s m = OkL τ to T j s m := by
  funext x
  unfold OkL
  simp only [h.re, h.lg, h.sr, h 5 _ _ (show 5 ≠ 9 by decide) (show 5 ≠ 10 by decide), h 6 _ _ (show 6 ≠ 9 by decide) (show 6 ≠ 10 by decide)]
theorem SameL.lk (h : SameL τ1 τ) (μ : SG) (to l s m : Nat) : LK τ1 μ to l s m = LK τ μ to l s m := by
  unfold LK
  simp only [h.re, h.be, h.ok]
theorem SameL.vt (h : SameL τ1 τ) (μ : SG) (to l : Nat) : VT τ1 to μ l = VT τ to μ l := by
  unfold VT VAL
  simp only [h.re, h.be, h.sr, h 5 _ _ (show 5 ≠ 9 by decide) (show 5 ≠ 10 by decide), h 0 _ _ (show 0 ≠ 9 by decide) (show 0 ≠ 10 by decide), h 3 _ _ (show 3 ≠ 9 by decide) (show 3 ≠ 10 by decide)]
theorem SameL.wi (h : SameL τ1 τ) (wi : WI τ) : WI τ1 := by
  intro t k l a b
  rw [h 3 t 0 (by decide) (by decide)] at b
  rw [h 6 t k (by decide) (by decide), h 6 t l (by decide) (by decide)]
  exact wi t k l a b
theorem SameL.wb (h : SameL τ1 τ) (wb : WB τ) : WB τ1 := by
  refine ⟨?_, fun t => ?_, fun t => ?_, fun t k => ?_, fun t k => ?_, fun t k => ?_⟩
  · rw [h 0 2 0 (by decide) (by decide)]; exact wb.1
  · rw [h 3 t 0 (by decide) (by decide)]; exact wb.2.1 t
  · rw [h 4 t 0 (by decide) (by decide)]; exact wb.2.2.1 t
  · rw [h 5 t k (by decide) (by decide)]; exact wb.2.2.2.1 t k
  · rw [h 6 t k (by decide) (by decide)]; exact wb.2.2.2.2.1 t k
  · rw [h.sr]; exact wb.2.2.2.2.2 t k
theorem SameL.lgn (h : SameL τ1 τ) (i : Nat) (x : LG) : SameL (lgS τ1 i x) τ := by
  intro a b c h9 h10
  simp only [lgS, us_at]
  rw [if_neg (fun q => h9 q.1), if_neg (fun q => h10 q.1), if_neg (fun q => h10 q.1), if_neg (fun q => h10 q.1)]
  exact h a b c h9 h10
end CONG
section LEAD
variable {σ κ τ μ : SG} {z : BB} {w : PS}
theorem LK.hm {to l s m : Nat} (h : LK τ μ to l s m) (hl : l ≤ 3) : μ 2 0 0 ≤ 268435456 ∧ μ 2 1 0 ≤ 9 := by
  rcases h with ⟨a, b, _, d⟩ | ⟨a, b, _⟩
  · omega
  · have := a.1; omega
theorem R_reckonOne (wt : WF τ) (hw : Wd σ κ τ μ z w) {to l t k : Nat} (hto : to < 10) (hl : l ≤ 3) (ht : t < τ 0 2 0) (hk : k < τ 3 t 0) (hr : RI τ to μ l t k) : Rx (p_X6_reckonOne (nI l) (nI (10 * t + k)) (nI (τ 5 t k)) (nI (srt τ t k)) (nI to)) w (fun _ w' => ∃ μ', Wd σ κ τ μ' z w' ∧ KM3 μ' μ ∧ RI τ to μ' l t (k + 1)) NE := by
  have h1 := wt.tr
  have h2 := wt.stops t
  have h3 := wt.srtb t k
  have h4 := wt.sta t k
  have e0 : 160 * l + (10 * t + k) = vix l t k := rfl
  have hv : vix l t k < 640 := by unfold vix; omega
  unfold p_X6_reckonOne
  refine Rx_assoc ?_
  refine Rx_rd (g_chk7 hw) ?_
  refine Rx_cn (R_look wt.inc wt.wb hw hl h4 (by omega) hto hr.2.2 hr.1) (fun _ w1 ⟨μ1, hw1, hk1, hlk⟩ => ?_)
  rw [nL_160, nI_mulI, nI_add, e0]
  refine Rx_rd (g_chk7 hw1) ?_
  refine Rx_rd (h_bT hw1) ?_
  refine Rx_set (t_early hw1 hv) (fun w2 hw2 => ?_)
  refine Rx_rd (g_chk7 hw2) ?_
  refine Rx_rd (h_bL hw2) ?_
  have eb : us μ1 0 (vix l t k) 0 (μ1 2 0 0) 2 1 0 = μ1 2 1 0 := by simp [us]
  rw [eb]
  refine Rx_set (t_few hw2 hv) (fun w3 hw3 => ?_)
  have f0 : ∀ i, us (us μ1 0 (vix l t k) 0 (μ1 2 0 0)) 1 (vix l t k) 0 (μ1 2 1 0) 0 i 0 = if i = vix l t k then μ1 2 0 0 else μ 0 i 0 := by
    intro i
    rw [← hk1 0 i 0 (by decide)]
    by_cases q : i = vix l t k <;> simp [us, q]
  have f1 : ∀ i, us (us μ1 0 (vix l t k) 0 (μ1 2 0 0)) 1 (vix l t k) 0 (μ1 2 1 0) 1 i 0 = if i = vix l t k then μ1 2 1 0 else μ 1 i 0 := by
    intro i
    rw [← hk1 1 i 0 (by decide)]
    by_cases q : i = vix l t k <;> simp [us, q]
  refine Rx_rt ⟨_, hw3, fun a b c ha => ?_, fun l' hl' t' k' ht' hk' => ?_, fun t' k' ht' hk' ho => ?_, fun i => ?_⟩
  · rw [us_at, us_at, if_neg (fun q => by omega), if_neg (fun q => by omega)]
    exact hk1 a b c (by omega)
  · rw [f0, f1]
    have := wt.stops t'
    have ne : ¬ vix l' t' k' = vix l t k := by unfold vix; omega
    rw [if_neg ne, if_neg ne]
    exact hr.1 l' hl' t' k' ht' hk'
  · rw [f0, f1]
    by_cases q : t' = t ∧ k' = k
    · obtain ⟨rfl, rfl⟩ := q
      rw [if_pos rfl, if_pos rfl]
      exact hlk.val
    · have := wt.stops t'
      have ne : ¬ vix l t' k' = vix l t k := by unfold vix; omega
      rw [if_neg ne, if_neg ne]
      exact hr.2.1 t' k' ht' hk' (by omega)
  · rw [f0, f1]
    have := hlk.hm hl
    have := hr.2.2 i
    split <;> omega
theorem L_reck20 (wt : WF τ) {to l t : Nat} (hto : to < 10) (hl : l ≤ 3) (ht : t < τ 0 2 0) {μ0 : SG} {kx : PM Unit} {Q : Unit → PS → Prop} {E : String → PS → Prop}
    (hk : ∀ μ w, Wd σ κ τ μ z w → KM3 μ μ0 → RI τ to μ l (t + 1) 0 → Rx kx w Q E) :
    ∀ (f k : Nat) (μ : SG) (w : PS), τ 3 t 0 < f + k → k ≤ τ 3 t 0 → Wd σ κ τ μ z w → KM3 μ μ0 → RI τ to μ l t k → Rx (p_X6_reckon_L20 (nI to) (nI l) (nI t) kx f (nI k)) w Q E := by
  intro f
  induction f with
  | zero => intro k μ w h1 h2; omega
  | succ f ih =>
    intro k μ w h1 h2 hw hkm hri
    have htr := wt.tr
    have hst := wt.stops t
    have hs1 := wt.sta t k
    rw [p_X6_reckon_L20]
    (repeat (first | with_reducible refine Rx_assoc ?_ | (simp (disch := omega) only [nL_0, nL_1, nL_2, nL_3, nL_4, nL_5, nL_6, nL_7, nL_10, nL_16, nL_31, nL_40, nL_60, nL_120, nL_160, nL_1439, nL_1000000, nL_10000000, nL_268435456, nI_clamp, nI_1, nI_add, nI_sub, nI_pred, nI_mulI]) | with_reducible refine Rx_rd (g_row3 (by first | assumption | omega)) ?_ | with_reducible refine Rx_rd (g_row4 (by first | assumption | omega)) ?_ | with_reducible refine Rx_rd (g_chk0 hw) ?_ | with_reducible refine Rx_rd (g_chk01 hw) ?_ | with_reducible refine Rx_rd (g_chk1 hw (by first | assumption | omega)) ?_ | with_reducible refine Rx_rd (g_chk2 hw) ?_ | with_reducible refine Rx_rd (g_chk3 hw) ?_ | with_reducible refine Rx_rd (g_chk4 hw (by first | assumption | omega)) ?_ | with_reducible refine Rx_rd (g_chk5 hw (by first | assumption | omega)) ?_ | with_reducible refine Rx_rd (g_chk6 hw) ?_ | with_reducible refine Rx_rd (g_chk7 hw) ?_ | with_reducible refine Rx_rd (g_gO0 hw (by first | assumption | omega)) ?_ | with_reducible refine Rx_rd (g_gB hw (by first | assumption | omega) (by first | assumption | omega)) ?_ | with_reducible refine Rx_rd (g_st hw) ?_ | with_reducible refine Rx_rd (g_ca hw) ?_ | with_reducible refine Rx_rd (g_now hw) ?_ | with_reducible refine Rx_rd (g_sort hw (by first | assumption | omega)) ?_ | with_reducible refine Rx_rd (g_room hw (by first | assumption | omega)) ?_ | with_reducible refine Rx_rd (g_stops hw (by first | assumption | omega)) ?_ | with_reducible refine Rx_rd (g_canc hw (by first | assumption | omega)) ?_ | with_reducible refine Rx_rd (g_sta hw (by first | assumption | omega) (by first | assumption | omega)) ?_ | with_reducible refine Rx_rd (g_min hw (by first | assumption | omega) (by first | assumption | omega)) ?_ | with_reducible refine Rx_rd (g_load hw (by first | assumption | omega) (by first | assumption | omega)) ?_ | with_reducible refine Rx_rd (g_from hw (by first | assumption | omega)) ?_ | with_reducible refine Rx_rd (g_wfrom hw (by first | assumption | omega)) ?_ | with_reducible refine Rx_rd (g_ready hw (by first | assumption | omega)) ?_ | with_reducible refine Rx_rd (g_to hw (by first | assumption | omega)) ?_ | with_reducible refine Rx_rd (g_wto hw (by first | assumption | omega)) ?_ | with_reducible refine Rx_rd (g_due hw (by first | assumption | omega)) ?_ | with_reducible refine Rx_rd (g_many hw (by first | assumption | omega)) ?_ | with_reducible refine Rx_rd (g_had hw (by first | assumption | omega)) ?_ | with_reducible refine Rx_rd (g_there hw (by first | assumption | omega)) ?_ | with_reducible refine Rx_rd (g_stands hw (by first | assumption | omega)) ?_ | with_reducible refine Rx_rd (g_since hw (by first | assumption | omega)) ?_ | with_reducible refine Rx_rd (g_off hw (by first | assumption | omega)) ?_ | with_reducible refine Rx_rd (g_leg hw (by first | assumption | omega) (by first | assumption | omega)) ?_ | with_reducible refine Rx_rd (g_days hw (by first | assumption | omega)) ?_ | with_reducible refine Rx_rd (g_earl hw (by first | assumption | omega) (by first | assumption | omega)) ?_ | with_reducible refine Rx_rd (g_late hw (by first | assumption | omega) (by first | assumption | omega)) ?_ | with_reducible refine Rx_rd (g_marks hw (by first | assumption | omega)) ?_ | with_reducible refine Rx_rd (h_code hw) ?_ | with_reducible refine Rx_rd (h_now hw) ?_ | with_reducible refine Rx_rd (h_st hw) ?_ | with_reducible refine Rx_rd (h_tr hw) ?_ | with_reducible refine Rx_rd (h_bx hw) ?_ | with_reducible refine Rx_rd (h_ca hw) ?_ | with_reducible refine Rx_rd (h_sort hw (by first | assumption | omega)) ?_ | with_reducible refine Rx_rd (h_room hw (by first | assumption | omega)) ?_ | with_reducible refine Rx_rd (h_stops hw (by first | assumption | omega)) ?_ | with_reducible refine Rx_rd (h_sta hw (by first | assumption | omega) (by first | assumption | omega)) ?_ | with_reducible refine Rx_rd (h_min hw (by first | assumption | omega) (by first | assumption | omega)) ?_ | with_reducible refine Rx_rd (h_load hw (by first | assumption | omega) (by first | assumption | omega)) ?_ | with_reducible refine Rx_rd (h_days hw (by first | assumption | omega)) ?_ | with_reducible refine Rx_rd (h_canc hw (by first | assumption | omega)) ?_ | with_reducible refine Rx_rd (h_home hw (by first | assumption | omega)) ?_ | with_reducible refine Rx_rd (h_walk hw (by first | assumption | omega)) ?_ | with_reducible refine Rx_rd (h_ready hw (by first | assumption | omega)) ?_ | with_reducible refine Rx_rd (h_desk hw (by first | assumption | omega)) ?_ | with_reducible refine Rx_rd (h_walkT hw (by first | assumption | omega)) ?_ | with_reducible refine Rx_rd (h_due hw (by first | assumption | omega)) ?_ | with_reducible refine Rx_rd (h_rback hw (by first | assumption | omega)) ?_ | with_reducible refine Rx_rd (h_emp hw (by first | assumption | omega)) ?_ | with_reducible refine Rx_rd (h_had hw (by first | assumption | omega)) ?_ | with_reducible refine Rx_rd (h_has hw (by first | assumption | omega)) ?_ | with_reducible refine Rx_rd (h_many hw (by first | assumption | omega)) ?_ | with_reducible refine Rx_rd (h_stands hw (by first | assumption | omega)) ?_ | with_reducible refine Rx_rd (h_since hw (by first | assumption | omega) (by first | assumption | omega)) ?_ | with_reducible refine Rx_rd (h_legT hw (by first | assumption | omega) (by first | assumption | omega)) ?_ | with_reducible refine Rx_rd (h_legN hw (by first | assumption | omega) (by first | assumption | omega)) ?_ | with_reducible refine Rx_rd (h_legF hw (by first | assumption | omega) (by first | assumption | omega)) ?_ | with_reducible refine Rx_rd (h_early hw (by first | assumption | omega)) ?_ | with_reducible refine Rx_rd (h_few hw (by first | assumption | omega)) ?_ | with_reducible refine Rx_rd (h_bT hw) ?_ | with_reducible refine Rx_rd (h_bL hw) ?_ | with_reducible refine Rx_rd (h_bt hw) ?_ | with_reducible refine Rx_rd (h_bon hw) ?_ | with_reducible refine Rx_rd (h_boff hw) ?_ | with_reducible refine Rx_rd (h_gives hw (by first | assumption | omega)) ?_ | with_reducible refine Rx_rd (g_sz0 hw) ?_ | with_reducible refine Rx_rd (g_sz1 hw) ?_ | with_reducible refine Rx_rd (g_gt0 hw (by first | assumption | omega)) ?_ | with_reducible refine Rx_rd (g_gt1 hw (by first | assumption | omega)) ?_ | with_reducible refine Rx_rd (r_sortedAt hw (by first | assumption | omega) (by first | assumption | omega) (by first | assumption | omega)) ?_ | with_reducible refine Rx_rd (r_isFull hw (by first | assumption | omega) (by first | assumption | omega)) ?_ | with_reducible refine Rx_rd (r_stands hw wf (by first | assumption | omega)) ?_ | with_reducible refine Rx_rd (r_hasWay hw wf (by first | assumption | omega)) ?_ | with_reducible refine Rx_rd (r_arrivalY hw wf (by first | assumption | omega) (by first | assumption | omega)) ?_ | with_reducible refine Rx_rd (r_arrivedBy hw wf (by first | assumption | omega) (by first | assumption | omega)) ?_ | with_reducible refine Rx_rd (r_goneBy hw wf (by first | assumption | omega) (by first | assumption | omega)) ?_ | with_reducible refine Rx_rd (r_isLate hw wf (by first | assumption | omega)) ?_ | with_reducible refine Rx_rd (r_thereBy hw wf (by first | assumption | omega) (by first | assumption | omega)) ?_ | with_reducible refine Rx_rd (r_current hw (by first | assumption | omega)) ?_ | with_reducible refine Rx_rd (r_isEmpty hw (by first | assumption | omega)) ?_ | with_reducible refine Rx_rd (r_legNumber hw (by first | assumption | omega) (by first | assumption | omega)) ?_ | with_reducible refine Rx_rd (r_ledLegs hw wf (by first | assumption | omega)) ?_ | with_reducible refine Rx_rd (r_beginning hw wf (by first | assumption | omega)) ?_ | with_reducible refine Rx_rd (r_mayFollow hw wf (by first | assumption | omega) (by first | assumption | omega) (by first | assumption | omega)) ?_ | with_reducible refine Rx_rd (r_beginsAfter hw wf (by first | assumption | omega) (by first | assumption | omega)) ?_ | with_reducible refine Rx_rd (r_node hw) ?_ | with_reducible refine Rx_rd (r_legAt hw) ?_ | with_reducible refine Rx_rd (r_Mway hw wt (by first | assumption | omega)) ?_ | with_reducible refine Rx_rd (r_Mto hw wt (by first | assumption | omega)) ?_ | with_reducible refine Rx_rd (r_Mfrom hw wt (by first | assumption | omega)) ?_ | with_reducible refine Rx_rd (r_Mready hw wt (by first | assumption | omega)) ?_ | with_reducible refine Rx_rd (r_Msorted hw wt (by first | assumption | omega)) ?_ | with_reducible refine Rx_rd (r_Mbehind hw wt (by first | assumption | omega) (by first | assumption | omega) (by first | assumption | omega)) ?_ | with_reducible refine Rx_rd (r_Mthere hw wt (by first | assumption | omega)) ?_ | with_reducible refine Rx_rd (r_Mfree hw (by first | assumption | omega) (by first | assumption | omega) (by first | assumption | omega)) ?_ | with_reducible refine Rx_rd (r_Mgone hw wt (by first | assumption | omega)) ?_ | with_reducible refine Rx_rd (r_Mlate hw wt (by first | assumption | omega)) ?_))
    refine Rx_if (fun h => ?_) (fun h => ?_)
    · simp (disch := omega) only [nL_0, nL_1, nL_2, nL_3, nL_4, nL_5, nL_6, nL_7, nL_10, nL_16, nL_31, nL_40, nL_60, nL_120, nL_160, nL_1439, nL_1000000, nL_10000000, nL_268435456, nI_ltI, nI_leI, nI_eq, Int32.not_lt, Int32.not_le, Nat.not_lt, Nat.not_le, m1_eqn, m1_eqm, nI_nem, ge_iff_le, gt_iff_lt] at h
      refine hk μ w hw hkm ⟨hri.1, fun t' k' a b c => hri.2.1 t' k' a b ?_, hri.2.2⟩
      by_cases q : t' = t
      · subst q; omega
      · omega
    · simp (disch := omega) only [nL_0, nL_1, nL_2, nL_3, nL_4, nL_5, nL_6, nL_7, nL_10, nL_16, nL_31, nL_40, nL_60, nL_120, nL_160, nL_1439, nL_1000000, nL_10000000, nL_268435456, nI_ltI, nI_leI, nI_eq, Int32.not_lt, Int32.not_le, Nat.not_lt, Nat.not_le, m1_eqn, m1_eqm, nI_nem, ge_iff_le, gt_iff_lt] at h
      (repeat (first | with_reducible refine Rx_assoc ?_ | (simp (disch := omega) only [nL_0, nL_1, nL_2, nL_3, nL_4, nL_5, nL_6, nL_7, nL_10, nL_16, nL_31, nL_40, nL_60, nL_120, nL_160, nL_1439, nL_1000000, nL_10000000, nL_268435456, nI_clamp, nI_1, nI_add, nI_sub, nI_pred, nI_mulI]) | with_reducible refine Rx_rd (g_row3 (by first | assumption | omega)) ?_ | with_reducible refine Rx_rd (g_row4 (by first | assumption | omega)) ?_ | with_reducible refine Rx_rd (g_chk0 hw) ?_ | with_reducible refine Rx_rd (g_chk01 hw) ?_ | with_reducible refine Rx_rd (g_chk1 hw (by first | assumption | omega)) ?_ | with_reducible refine Rx_rd (g_chk2 hw) ?_ | with_reducible refine Rx_rd (g_chk3 hw) ?_ | with_reducible refine Rx_rd (g_chk4 hw (by first | assumption | omega)) ?_ | with_reducible refine Rx_rd (g_chk5 hw (by first | assumption | omega)) ?_ | with_reducible refine Rx_rd (g_chk6 hw) ?_ | with_reducible refine Rx_rd (g_chk7 hw) ?_ | with_reducible refine Rx_rd (g_gO0 hw (by first | assumption | omega)) ?_ | with_reducible refine Rx_rd (g_gB hw (by first | assumption | omega) (by first | assumption | omega)) ?_ | with_reducible refine Rx_rd (g_st hw) ?_ | with_reducible refine Rx_rd (g_ca hw) ?_ | with_reducible refine Rx_rd (g_now hw) ?_ | with_reducible refine Rx_rd (g_sort hw (by first | assumption | omega)) ?_ | with_reducible refine Rx_rd (g_room hw (by first | assumption | omega)) ?_ | with_reducible refine Rx_rd (g_stops hw (by first | assumption | omega)) ?_ | with_reducible refine Rx_rd (g_canc hw (by first | assumption | omega)) ?_ | with_reducible refine Rx_rd (g_sta hw (by first | assumption | omega) (by first | assumption | omega)) ?_ | with_reducible refine Rx_rd (g_min hw (by first | assumption | omega) (by first | assumption | omega)) ?_ | with_reducible refine Rx_rd (g_load hw (by first | assumption | omega) (by first | assumption | omega)) ?_ | with_reducible refine Rx_rd (g_from hw (by first | assumption | omega)) ?_ | with_reducible refine Rx_rd (g_wfrom hw (by first | assumption | omega)) ?_ | with_reducible refine Rx_rd (g_ready hw (by first | assumption | omega)) ?_ | with_reducible refine Rx_rd (g_to hw (by first | assumption | omega)) ?_ | with_reducible refine Rx_rd (g_wto hw (by first | assumption | omega)) ?_ | with_reducible refine Rx_rd (g_due hw (by first | assumption | omega)) ?_ | with_reducible refine Rx_rd (g_many hw (by first | assumption | omega)) ?_ | with_reducible refine Rx_rd (g_had hw (by first | assumption | omega)) ?_ | with_reducible refine Rx_rd (g_there hw (by first | assumption | omega)) ?_ | with_reducible refine Rx_rd (g_stands hw (by first | assumption | omega)) ?_ | with_reducible refine Rx_rd (g_since hw (by first | assumption | omega)) ?_ | with_reducible refine Rx_rd (g_off hw (by first | assumption | omega)) ?_ | with_reducible refine Rx_rd (g_leg hw (by first | assumption | omega) (by first | assumption | omega)) ?_ | with_reducible refine Rx_rd (g_days hw (by first | assumption | omega)) ?_ | with_reducible refine Rx_rd (g_earl hw (by first | assumption | omega) (by first | assumption | omega)) ?_ | with_reducible refine Rx_rd (g_late hw (by first | assumption | omega) (by first | assumption | omega)) ?_ | with_reducible refine Rx_rd (g_marks hw (by first | assumption | omega)) ?_ | with_reducible refine Rx_rd (h_code hw) ?_ | with_reducible refine Rx_rd (h_now hw) ?_ | with_reducible refine Rx_rd (h_st hw) ?_ | with_reducible refine Rx_rd (h_tr hw) ?_ | with_reducible refine Rx_rd (h_bx hw) ?_ | with_reducible refine Rx_rd (h_ca hw) ?_ | with_reducible refine Rx_rd (h_sort hw (by first | assumption | omega)) ?_ | with_reducible refine Rx_rd (h_room hw (by first | assumption | omega)) ?_ | with_reducible refine Rx_rd (h_stops hw (by first | assumption | omega)) ?_ | with_reducible refine Rx_rd (h_sta hw (by first | assumption | omega) (by first | assumption | omega)) ?_ | with_reducible refine Rx_rd (h_min hw (by first | assumption | omega) (by first | assumption | omega)) ?_ | with_reducible refine Rx_rd (h_load hw (by first | assumption | omega) (by first | assumption | omega)) ?_ | with_reducible refine Rx_rd (h_days hw (by first | assumption | omega)) ?_ | with_reducible refine Rx_rd (h_canc hw (by first | assumption | omega)) ?_ | with_reducible refine Rx_rd (h_home hw (by first | assumption | omega)) ?_ | with_reducible refine Rx_rd (h_walk hw (by first | assumption | omega)) ?_ | with_reducible refine Rx_rd (h_ready hw (by first | assumption | omega)) ?_ | with_reducible refine Rx_rd (h_desk hw (by first | assumption | omega)) ?_ | with_reducible refine Rx_rd (h_walkT hw (by first | assumption | omega)) ?_ | with_reducible refine Rx_rd (h_due hw (by first | assumption | omega)) ?_ | with_reducible refine Rx_rd (h_rback hw (by first | assumption | omega)) ?_ | with_reducible refine Rx_rd (h_emp hw (by first | assumption | omega)) ?_ | with_reducible refine Rx_rd (h_had hw (by first | assumption | omega)) ?_ | with_reducible refine Rx_rd (h_has hw (by first | assumption | omega)) ?_ | with_reducible refine Rx_rd (h_many hw (by first | assumption | omega)) ?_ | with_reducible refine Rx_rd (h_stands hw (by first | assumption | omega)) ?_ | with_reducible refine Rx_rd (h_since hw (by first | assumption | omega) (by first | assumption | omega)) ?_ | with_reducible refine Rx_rd (h_legT hw (by first | assumption | omega) (by first | assumption | omega)) ?_ | with_reducible refine Rx_rd (h_legN hw (by first | assumption | omega) (by first | assumption | omega)) ?_ | with_reducible refine Rx_rd (h_legF hw (by first | assumption | omega) (by first | assumption | omega)) ?_ | with_reducible refine Rx_rd (h_early hw (by first | assumption | omega)) ?_ | with_reducible refine Rx_rd (h_few hw (by first | assumption | omega)) ?_ | with_reducible refine Rx_rd (h_bT hw) ?_ | with_reducible refine Rx_rd (h_bL hw) ?_ | with_reducible refine Rx_rd (h_bt hw) ?_ | with_reducible refine Rx_rd (h_bon hw) ?_ | with_reducible refine Rx_rd (h_boff hw) ?_ | with_reducible refine Rx_rd (h_gives hw (by first | assumption | omega)) ?_ | with_reducible refine Rx_rd (g_sz0 hw) ?_ | with_reducible refine Rx_rd (g_sz1 hw) ?_ | with_reducible refine Rx_rd (g_gt0 hw (by first | assumption | omega)) ?_ | with_reducible refine Rx_rd (g_gt1 hw (by first | assumption | omega)) ?_ | with_reducible refine Rx_rd (r_sortedAt hw (by first | assumption | omega) (by first | assumption | omega) (by first | assumption | omega)) ?_ | with_reducible refine Rx_rd (r_isFull hw (by first | assumption | omega) (by first | assumption | omega)) ?_ | with_reducible refine Rx_rd (r_stands hw wf (by first | assumption | omega)) ?_ | with_reducible refine Rx_rd (r_hasWay hw wf (by first | assumption | omega)) ?_ | with_reducible refine Rx_rd (r_arrivalY hw wf (by first | assumption | omega) (by first | assumption | omega)) ?_ | with_reducible refine Rx_rd (r_arrivedBy hw wf (by first | assumption | omega) (by first | assumption | omega)) ?_ | with_reducible refine Rx_rd (r_goneBy hw wf (by first | assumption | omega) (by first | assumption | omega)) ?_ | with_reducible refine Rx_rd (r_isLate hw wf (by first | assumption | omega)) ?_ | with_reducible refine Rx_rd (r_thereBy hw wf (by first | assumption | omega) (by first | assumption | omega)) ?_ | with_reducible refine Rx_rd (r_current hw (by first | assumption | omega)) ?_ | with_reducible refine Rx_rd (r_isEmpty hw (by first | assumption | omega)) ?_ | with_reducible refine Rx_rd (r_legNumber hw (by first | assumption | omega) (by first | assumption | omega)) ?_ | with_reducible refine Rx_rd (r_ledLegs hw wf (by first | assumption | omega)) ?_ | with_reducible refine Rx_rd (r_beginning hw wf (by first | assumption | omega)) ?_ | with_reducible refine Rx_rd (r_mayFollow hw wf (by first | assumption | omega) (by first | assumption | omega) (by first | assumption | omega)) ?_ | with_reducible refine Rx_rd (r_beginsAfter hw wf (by first | assumption | omega) (by first | assumption | omega)) ?_ | with_reducible refine Rx_rd (r_node hw) ?_ | with_reducible refine Rx_rd (r_legAt hw) ?_ | with_reducible refine Rx_rd (r_Mway hw wt (by first | assumption | omega)) ?_ | with_reducible refine Rx_rd (r_Mto hw wt (by first | assumption | omega)) ?_ | with_reducible refine Rx_rd (r_Mfrom hw wt (by first | assumption | omega)) ?_ | with_reducible refine Rx_rd (r_Mready hw wt (by first | assumption | omega)) ?_ | with_reducible refine Rx_rd (r_Msorted hw wt (by first | assumption | omega)) ?_ | with_reducible refine Rx_rd (r_Mbehind hw wt (by first | assumption | omega) (by first | assumption | omega) (by first | assumption | omega)) ?_ | with_reducible refine Rx_rd (r_Mthere hw wt (by first | assumption | omega)) ?_ | with_reducible refine Rx_rd (r_Mfree hw (by first | assumption | omega) (by first | assumption | omega) (by first | assumption | omega)) ?_ | with_reducible refine Rx_rd (r_Mgone hw wt (by first | assumption | omega)) ?_ | with_reducible refine Rx_rd (r_Mlate hw wt (by first | assumption | omega)) ?_))
      refine Rx_cn (R_reckonOne wt hw hto hl ht h hri) (fun _ w1 ⟨μ1, hw1, hk1, hr1⟩ => ?_)
      exact ih (k + 1) μ1 w1 (by omega) (by omega) hw1 (fun a b c ha => by rw [hk1 a b c ha]; exact hkm a b c ha) hr1
theorem L_reck9 (wt : WF τ) {to l : Nat} (hto : to < 10) (hl : l ≤ 3) {μ0 : SG} {kx : PM Unit} {Q : Unit → PS → Prop} {E : String → PS → Prop}
    (hk : ∀ μ w, Wd σ κ τ μ z w → KM3 μ μ0 → (∀ l', l' < l + 1 → VT τ to μ l') → HM μ → Rx kx w Q E) :
    ∀ (f t : Nat) (μ : SG) (w : PS), τ 0 2 0 < f + t → t ≤ τ 0 2 0 → Wd σ κ τ μ z w → KM3 μ μ0 → RI τ to μ l t 0 → Rx (p_X6_reckon_L9 (nI to) (nI l) kx f (nI t)) w Q E := by
  intro f
  induction f with
  | zero => intro t μ w h1 h2; omega
  | succ f ih =>
    intro t μ w h1 h2 hw hkm hri
    have htr := wt.tr
    rw [p_X6_reckon_L9]
    (repeat (first | with_reducible refine Rx_assoc ?_ | (simp (disch := omega) only [nL_0, nL_1, nL_2, nL_3, nL_4, nL_5, nL_6, nL_7, nL_10, nL_16, nL_31, nL_40, nL_60, nL_120, nL_160, nL_1439, nL_1000000, nL_10000000, nL_268435456, nI_clamp, nI_1, nI_add, nI_sub, nI_pred, nI_mulI]) | with_reducible refine Rx_rd (g_row3 (by first | assumption | omega)) ?_ | with_reducible refine Rx_rd (g_row4 (by first | assumption | omega)) ?_ | with_reducible refine Rx_rd (g_chk0 hw) ?_ | with_reducible refine Rx_rd (g_chk01 hw) ?_ | with_reducible refine Rx_rd (g_chk1 hw (by first | assumption | omega)) ?_ | with_reducible refine Rx_rd (g_chk2 hw) ?_ | with_reducible refine Rx_rd (g_chk3 hw) ?_ | with_reducible refine Rx_rd (g_chk4 hw (by first | assumption | omega)) ?_ | with_reducible refine Rx_rd (g_chk5 hw (by first | assumption | omega)) ?_ | with_reducible refine Rx_rd (g_chk6 hw) ?_ | with_reducible refine Rx_rd (g_chk7 hw) ?_ | with_reducible refine Rx_rd (g_gO0 hw (by first | assumption | omega)) ?_ | with_reducible refine Rx_rd (g_gB hw (by first | assumption | omega) (by first | assumption | omega)) ?_ | with_reducible refine Rx_rd (g_st hw) ?_ | with_reducible refine Rx_rd (g_ca hw) ?_ | with_reducible refine Rx_rd (g_now hw) ?_ | with_reducible refine Rx_rd (g_sort hw (by first | assumption | omega)) ?_ | with_reducible refine Rx_rd (g_room hw (by first | assumption | omega)) ?_ | with_reducible refine Rx_rd (g_stops hw (by first | assumption | omega)) ?_ | with_reducible refine Rx_rd (g_canc hw (by first | assumption | omega)) ?_ | with_reducible refine Rx_rd (g_sta hw (by first | assumption | omega) (by first | assumption | omega)) ?_ | with_reducible refine Rx_rd (g_min hw (by first | assumption | omega) (by first | assumption | omega)) ?_ | with_reducible refine Rx_rd (g_load hw (by first | assumption | omega) (by first | assumption | omega)) ?_ | with_reducible refine Rx_rd (g_from hw (by first | assumption | omega)) ?_ | with_reducible refine Rx_rd (g_wfrom hw (by first | assumption | omega)) ?_ | with_reducible refine Rx_rd (g_ready hw (by first | assumption | omega)) ?_ | with_reducible refine Rx_rd (g_to hw (by first | assumption | omega)) ?_ | with_reducible refine Rx_rd (g_wto hw (by first | assumption | omega)) ?_ | with_reducible refine Rx_rd (g_due hw (by first | assumption | omega)) ?_ | with_reducible refine Rx_rd (g_many hw (by first | assumption | omega)) ?_ | with_reducible refine Rx_rd (g_had hw (by first | assumption | omega)) ?_ | with_reducible refine Rx_rd (g_there hw (by first | assumption | omega)) ?_ | with_reducible refine Rx_rd (g_stands hw (by first | assumption | omega)) ?_ | with_reducible refine Rx_rd (g_since hw (by first | assumption | omega)) ?_ | with_reducible refine Rx_rd (g_off hw (by first | assumption | omega)) ?_ | with_reducible refine Rx_rd (g_leg hw (by first | assumption | omega) (by first | assumption | omega)) ?_ | with_reducible refine Rx_rd (g_days hw (by first | assumption | omega)) ?_ | with_reducible refine Rx_rd (g_earl hw (by first | assumption | omega) (by first | assumption | omega)) ?_ | with_reducible refine Rx_rd (g_late hw (by first | assumption | omega) (by first | assumption | omega)) ?_ | with_reducible refine Rx_rd (g_marks hw (by first | assumption | omega)) ?_ | with_reducible refine Rx_rd (h_code hw) ?_ | with_reducible refine Rx_rd (h_now hw) ?_ | with_reducible refine Rx_rd (h_st hw) ?_ | with_reducible refine Rx_rd (h_tr hw) ?_ | with_reducible refine Rx_rd (h_bx hw) ?_ | with_reducible refine Rx_rd (h_ca hw) ?_ | with_reducible refine Rx_rd (h_sort hw (by first | assumption | omega)) ?_ | with_reducible refine Rx_rd (h_room hw (by first | assumption | omega)) ?_ | with_reducible refine Rx_rd (h_stops hw (by first | assumption | omega)) ?_ | with_reducible refine Rx_rd (h_sta hw (by first | assumption | omega) (by first | assumption | omega)) ?_ | with_reducible refine Rx_rd (h_min hw (by first | assumption | omega) (by first | assumption | omega)) ?_ | with_reducible refine Rx_rd (h_load hw (by first | assumption | omega) (by first | assumption | omega)) ?_ | with_reducible refine Rx_rd (h_days hw (by first | assumption | omega)) ?_ | with_reducible refine Rx_rd (h_canc hw (by first | assumption | omega)) ?_ | with_reducible refine Rx_rd (h_home hw (by first | assumption | omega)) ?_ | with_reducible refine Rx_rd (h_walk hw (by first | assumption | omega)) ?_ | with_reducible refine Rx_rd (h_ready hw (by first | assumption | omega)) ?_ | with_reducible refine Rx_rd (h_desk hw (by first | assumption | omega)) ?_ | with_reducible refine Rx_rd (h_walkT hw (by first | assumption | omega)) ?_ | with_reducible refine Rx_rd (h_due hw (by first | assumption | omega)) ?_ | with_reducible refine Rx_rd (h_rback hw (by first | assumption | omega)) ?_ | with_reducible refine Rx_rd (h_emp hw (by first | assumption | omega)) ?_ | with_reducible refine Rx_rd (h_had hw (by first | assumption | omega)) ?_ | with_reducible refine Rx_rd (h_has hw (by first | assumption | omega)) ?_ | with_reducible refine Rx_rd (h_many hw (by first | assumption | omega)) ?_ | with_reducible refine Rx_rd (h_stands hw (by first | assumption | omega)) ?_ | with_reducible refine Rx_rd (h_since hw (by first | assumption | omega) (by first | assumption | omega)) ?_ | with_reducible refine Rx_rd (h_legT hw (by first | assumption | omega) (by first | assumption | omega)) ?_ | with_reducible refine Rx_rd (h_legN hw (by first | assumption | omega) (by first | assumption | omega)) ?_ | with_reducible refine Rx_rd (h_legF hw (by first | assumption | omega) (by first | assumption | omega)) ?_ | with_reducible refine Rx_rd (h_early hw (by first | assumption | omega)) ?_ | with_reducible refine Rx_rd (h_few hw (by first | assumption | omega)) ?_ | with_reducible refine Rx_rd (h_bT hw) ?_ | with_reducible refine Rx_rd (h_bL hw) ?_ | with_reducible refine Rx_rd (h_bt hw) ?_ | with_reducible refine Rx_rd (h_bon hw) ?_ | with_reducible refine Rx_rd (h_boff hw) ?_ | with_reducible refine Rx_rd (h_gives hw (by first | assumption | omega)) ?_ | with_reducible refine Rx_rd (g_sz0 hw) ?_ | with_reducible refine Rx_rd (g_sz1 hw) ?_ | with_reducible refine Rx_rd (g_gt0 hw (by first | assumption | omega)) ?_ | with_reducible refine Rx_rd (g_gt1 hw (by first | assumption | omega)) ?_ | with_reducible refine Rx_rd (r_sortedAt hw (by first | assumption | omega) (by first | assumption | omega) (by first | assumption | omega)) ?_ | with_reducible refine Rx_rd (r_isFull hw (by first | assumption | omega) (by first | assumption | omega)) ?_ | with_reducible refine Rx_rd (r_stands hw wf (by first | assumption | omega)) ?_ | with_reducible refine Rx_rd (r_hasWay hw wf (by first | assumption | omega)) ?_ | with_reducible refine Rx_rd (r_arrivalY hw wf (by first | assumption | omega) (by first | assumption | omega)) ?_ | with_reducible refine Rx_rd (r_arrivedBy hw wf (by first | assumption | omega) (by first | assumption | omega)) ?_ | with_reducible refine Rx_rd (r_goneBy hw wf (by first | assumption | omega) (by first | assumption | omega)) ?_ | with_reducible refine Rx_rd (r_isLate hw wf (by first | assumption | omega)) ?_ | with_reducible refine Rx_rd (r_thereBy hw wf (by first | assumption | omega) (by first | assumption | omega)) ?_ | with_reducible refine Rx_rd (r_current hw (by first | assumption | omega)) ?_ | with_reducible refine Rx_rd (r_isEmpty hw (by first | assumption | omega)) ?_ | with_reducible refine Rx_rd (r_legNumber hw (by first | assumption | omega) (by first | assumption | omega)) ?_ | with_reducible refine Rx_rd (r_ledLegs hw wf (by first | assumption | omega)) ?_ | with_reducible refine Rx_rd (r_beginning hw wf (by first | assumption | omega)) ?_ | with_reducible refine Rx_rd (r_mayFollow hw wf (by first | assumption | omega) (by first | assumption | omega) (by first | assumption | omega)) ?_ | with_reducible refine Rx_rd (r_beginsAfter hw wf (by first | assumption | omega) (by first | assumption | omega)) ?_ | with_reducible refine Rx_rd (r_node hw) ?_ | with_reducible refine Rx_rd (r_legAt hw) ?_ | with_reducible refine Rx_rd (r_Mway hw wt (by first | assumption | omega)) ?_ | with_reducible refine Rx_rd (r_Mto hw wt (by first | assumption | omega)) ?_ | with_reducible refine Rx_rd (r_Mfrom hw wt (by first | assumption | omega)) ?_ | with_reducible refine Rx_rd (r_Mready hw wt (by first | assumption | omega)) ?_ | with_reducible refine Rx_rd (r_Msorted hw wt (by first | assumption | omega)) ?_ | with_reducible refine Rx_rd (r_Mbehind hw wt (by first | assumption | omega) (by first | assumption | omega) (by first | assumption | omega)) ?_ | with_reducible refine Rx_rd (r_Mthere hw wt (by first | assumption | omega)) ?_ | with_reducible refine Rx_rd (r_Mfree hw (by first | assumption | omega) (by first | assumption | omega) (by first | assumption | omega)) ?_ | with_reducible refine Rx_rd (r_Mgone hw wt (by first | assumption | omega)) ?_ | with_reducible refine Rx_rd (r_Mlate hw wt (by first | assumption | omega)) ?_))
    refine Rx_if (fun h => ?_) (fun h => ?_)
    · simp (disch := omega) only [nL_0, nL_1, nL_2, nL_3, nL_4, nL_5, nL_6, nL_7, nL_10, nL_16, nL_31, nL_40, nL_60, nL_120, nL_160, nL_1439, nL_1000000, nL_10000000, nL_268435456, nI_ltI, nI_leI, nI_eq, Int32.not_lt, Int32.not_le, Nat.not_lt, Nat.not_le, m1_eqn, m1_eqm, nI_nem, ge_iff_le, gt_iff_lt] at h
      refine hk μ w hw hkm (fun l' hl' => ?_) hri.2.2
      by_cases q : l' = l
      · subst q
        intro t' k' a b
        exact hri.2.1 t' k' a b (by omega)
      · exact hri.1 l' (by omega)
    · simp (disch := omega) only [nL_0, nL_1, nL_2, nL_3, nL_4, nL_5, nL_6, nL_7, nL_10, nL_16, nL_31, nL_40, nL_60, nL_120, nL_160, nL_1439, nL_1000000, nL_10000000, nL_268435456, nI_ltI, nI_leI, nI_eq, Int32.not_lt, Int32.not_le, Nat.not_lt, Nat.not_le, m1_eqn, m1_eqm, nI_nem, ge_iff_le, gt_iff_lt] at h
      (try simp (disch := omega) only [nL_0, nL_1, nL_2, nL_3, nL_4, nL_5, nL_6, nL_7, nL_10, nL_16, nL_31, nL_40, nL_60, nL_120, nL_160, nL_1439, nL_1000000, nL_10000000, nL_268435456, nI_clamp, nI_1, nI_add, nI_sub, nI_pred, nI_mulI])
      refine L_reck20 wt hto hl h (μ0 := μ) (fun μ1 w1 hw1 hk1 hr1 => ?_) FU 0 μ w (by have := wt.stops t; unfold FU; omega) (by omega) hw (fun _ _ _ _ => rfl) hri
      exact ih (t + 1) μ1 w1 (by omega) (by omega) hw1 (fun a b c ha => by rw [hk1 a b c ha]; exact hkm a b c ha) hr1
theorem L_reck2 (wt : WF τ) {to : Nat} (hto : to < 10) {μ0 : SG} {kx : PM Unit} {Q : Unit → PS → Prop} {E : String → PS → Prop}
    (hk : ∀ μ w, Wd σ κ τ μ z w → KM3 μ μ0 → (∀ l', l' < 4 → VT τ to μ l') → HM μ → Rx kx w Q E) :
    ∀ (f l : Nat) (μ : SG) (w : PS), 4 < f + l → l ≤ 4 → Wd σ κ τ μ z w → KM3 μ μ0 → (∀ l', l' < l → VT τ to μ l') → HM μ → Rx (p_X6_reckon_L2 (nI to) kx f (nI l)) w Q E := by
  intro f
  induction f with
  | zero => intro l μ w h1 h2; omega
  | succ f ih =>
    intro l μ w h1 h2 hw hkm hvt hhm
    rw [p_X6_reckon_L2]
    refine Rx_if (fun h => ?_) (fun h => ?_)
    · simp (disch := omega) only [nL_0, nL_1, nL_2, nL_3, nL_4, nL_5, nL_6, nL_7, nL_10, nL_16, nL_31, nL_40, nL_60, nL_120, nL_160, nL_1439, nL_1000000, nL_10000000, nL_268435456, nI_ltI, nI_leI, nI_eq, Int32.not_lt, Int32.not_le, Nat.not_lt, Nat.not_le, m1_eqn, m1_eqm, nI_nem, ge_iff_le, gt_iff_lt] at h
      exact hk μ w hw hkm (fun l' hl' => hvt l' (by omega)) hhm
    · simp (disch := omega) only [nL_0, nL_1, nL_2, nL_3, nL_4, nL_5, nL_6, nL_7, nL_10, nL_16, nL_31, nL_40, nL_60, nL_120, nL_160, nL_1439, nL_1000000, nL_10000000, nL_268435456, nI_ltI, nI_leI, nI_eq, Int32.not_lt, Int32.not_le, Nat.not_lt, Nat.not_le, m1_eqn, m1_eqm, nI_nem, ge_iff_le, gt_iff_lt] at h
      (try simp (disch := omega) only [nL_0, nL_1, nL_2, nL_3, nL_4, nL_5, nL_6, nL_7, nL_10, nL_16, nL_31, nL_40, nL_60, nL_120, nL_160, nL_1439, nL_1000000, nL_10000000, nL_268435456, nI_clamp, nI_1, nI_add, nI_sub, nI_pred, nI_mulI])
      refine L_reck9 wt hto (by omega) (μ0 := μ) (fun μ1 w1 hw1 hk1 hr1 hh1 => ?_) FU 0 μ w (by have := wt.tr; unfold FU; omega) (by omega) hw (fun _ _ _ _ => rfl) ⟨hvt, fun t' k' a b c => by omega, hhm⟩
      exact ih (l + 1) μ1 w1 (by omega) (by omega) hw1 (fun a b c ha => by rw [hk1 a b c ha]; exact hkm a b c ha) hr1 hh1
theorem R_reckon (wt : WF τ) (hw : Wd σ κ τ μ z w) {to : Nat} (hto : to < 10) (hhm : HM μ) : Rx (p_X6_reckon (nI to)) w (fun _ w' => ∃ μ', Wd σ κ τ μ' z w' ∧ KM3 μ' μ ∧ (∀ l', l' < 4 → VT τ to μ' l') ∧ HM μ') NE := by
  unfold p_X6_reckon
  exact L_reck2 wt hto (fun μ1 w1 a b c d => Rx_rt ⟨μ1, a, b, c, d⟩) FU 0 μ w (by unfold FU; omega) (by omega) hw (fun _ _ _ _ => rfl) (fun l' hl' => absurd hl' (Nat.not_lt_zero _)) hhm
/-- the way's legs are written, one look after the other -/
theorem L_lead52 (wt : WF τ) {i to T : Nat} (hi : i < 120) (hto : to < 10) {kx : PM Int32} {Q : Int32 → PS → Prop} {E : String → PS → Prop} {μ0 : SG} :
    ∀ (N l f s m : Nat) (τ1 μ : SG) (w : PS), isBest τ to l s m T N → LK τ μ to l s m → N ≤ f → l ≤ 3 → Wd σ κ τ1 μ z w → SameL τ1 τ → τ1 9 i 2 + N ≤ 3 → HM μ → KM3 μ μ0 → (∀ l', l' < l → VT τ to μ l') → (∀ μ' w', Wd σ κ (addG τ1 i (legsS τ to T N s m)) μ' z w' → KM3 μ' μ0 → HM μ' → Rx kx w' Q E) → Rx (p_X6_lead_L52 (nI i) (nI to) kx (f + 1) (nI l)) w Q E := by
  intro N
  induction N with
  | zero =>
    intro l f s m τ1 μ w hbest hlk hf hl hw hsame hmany hhm hkm hvt hk
    rw [p_X6_lead_L52]
    refine Rx_rd (h_bt hw) ?_
    rcases hlk with ⟨_, _, _, hn⟩ | ⟨hb, _, hc⟩
    · exact absurd hbest.2.1 (hn 0 T (by omega))
    · have e := isBest_uniq hb hbest
      rcases hc with ⟨_, c2⟩ | ⟨N', x, c1, _⟩
      · rw [c2]
        exact Rx_pos rfl (hk μ w hw hkm hhm)
      · omega
  | succ N ih =>
    intro l f s m τ1 μ w hbest hlk hf hl hw hsame hmany hhm hkm hvt hk
    rw [p_X6_lead_L52]
    refine Rx_rd (h_bt hw) ?_
    rcases hlk with ⟨_, _, _, hn⟩ | ⟨hb, _, hc⟩
    · exact absurd hbest.2.1 (hn _ T hbest.1)
    · have e := isBest_uniq hb hbest
      rcases hc with ⟨c1, _⟩ | ⟨N', x, c1, c2, c3, c4, hx⟩
      · omega
      · have eN : N' = N := by omega
        rw [eN, e.1] at hx
        have hleg := hx.1.1
        have h16 := wt.tr
        have hx1 := hleg.1
        have hx2 := hleg.2.2.1
        have hx3 := wt.stops x.1
        have hxs := wt.sta x.1 x.2.2
        rw [c2, m1_s]
        refine Rx_neg (m1_lt _ (by omega)) ?_
        have hwq := hw
        refine Rx_rd (g_chk7 hw) ?_
        refine Rx_rd (h_many hw (by omega)) ?_
        refine Rx_rd (r_legAt hw) ?_
        refine Rx_rd (g_chk7 hw) ?_
        refine Rx_rd (h_bt hw) ?_
        rw [c2, m1_s]
        refine Rx_set (t_legT hw hi (by omega)) (fun w1 hw1 => ?_)
        refine Rx_rd (g_chk7 hw1) ?_
        refine Rx_rd (h_bon hw1) ?_
        rw [c3]
        refine Rx_set (t_legN hw1 hi (by omega)) (fun w2 hw2 => ?_)
        refine Rx_rd (g_chk7 hw2) ?_
        refine Rx_rd (h_boff hw2) ?_
        rw [c4]
        refine Rx_set (t_legF hw2 hi (by omega)) (fun w3 hw3 => ?_)
        refine Rx_rd (g_chk7 hw3) ?_
        refine Rx_rd (h_many hw3 (by omega)) ?_
        have em : us (us (us τ1 10 i (3 * τ1 9 i 2) x.1) 10 i (3 * τ1 9 i 2 + 1) x.2.1) 10 i (3 * τ1 9 i 2 + 2) x.2.2 9 i 2 = τ1 9 i 2 := by simp [us]
        rw [em, nL_1, nI_add]
        refine Rx_set (t_many hw3 (by omega)) (fun w4 hw4 => ?_)
        have hw4 : Wd σ κ (lgS τ1 i x) μ z w4 := hw4
        have hs2 := hsame.lgn i x
        have wb2 := hs2.wb wt.wb
        have e5 : lgS τ1 i x 5 x.1 x.2.2 = τ 5 x.1 x.2.2 := hs2 5 _ _ (by decide) (by decide)
        have e6 : lgS τ1 i x 6 x.1 x.2.2 = τ 6 x.1 x.2.2 := hs2 6 _ _ (by decide) (by decide)
        have e7 : lgS τ1 i x 1 (τ 5 x.1 x.2.2) 0 = τ 1 (τ 5 x.1 x.2.2) 0 := hs2 1 _ _ (by decide) (by decide)
        refine Rx_rd (h_bt hw4) ?_
        rw [c2, m1_s]
        refine Rx_rd (h_boff hw4) ?_
        rw [c4]
        refine Rx_rd (r_node hw4) ?_
        refine Rx_rd (g_chk7 hw4) ?_
        refine Rx_rd (h_sta hw4 (by omega) (by omega)) ?_
        refine Rx_rd (g_chk7 hw4) ?_
        refine Rx_rd (h_min hw4 (by omega) (by omega)) ?_
        refine Rx_rd (g_chk7 hw4) ?_
        refine Rx_rd (g_chk7 hw4) ?_
        refine Rx_rd (h_sta hw4 (by omega) (by omega)) ?_
        rw [e5, e6]
        refine Rx_rd (h_sort hw4 hxs) ?_
        rw [e7, nI_add]
        have e8 : τ 6 x.1 x.2.2 + τ 1 (τ 5 x.1 x.2.2) 0 = srt τ x.1 x.2.2 := rfl
        have hb3 := wt.srtb x.1 x.2.2
        obtain ⟨l', rfl⟩ : ∃ l', l = l' + 1 := ⟨l - 1, by have := hbest.1; omega⟩
        obtain ⟨f', rfl⟩ : ∃ f', f = f' + 1 := ⟨f - 1, by omega⟩
        have e9 : nI (l' + 1) + -nI 1 = nI l' := by rw [nI_dn, m1_s]
        have e10 : nI (l' + 1) + -1 = nI l' := by rw [nI_dn2, m1_s]
        rw [e8]
        refine Rx_assoc ?_
        refine Rx_rd (g_chk7 hw4) ?_
        first | rw [e9] | rw [e10]
        refine Rx_cn (R_look (hs2.wi wt.inc) wb2 hw4 (show l' ≤ 3 by omega) hxs (by omega) hto hhm (fun l2 hl2 => by rw [hs2.vt]; exact hvt l2 (by omega))) (fun _ w5 ⟨μ5, hw5, hk5, hlk5⟩ => ?_)
        rw [hs2.lk] at hlk5
        refine ih l' f' _ _ _ μ5 w5 (best_next wt hbest hx.1) hlk5 (by omega) (by omega) hw5 hs2 ?_ ?_ ?_ ?_ (fun μ' w' a b c => hk μ' w' ?_ b c)
        · show lgS τ1 i x 9 i 2 + N ≤ 3
          rw [lg_many]; omega
        · intro j
          rw [hk5 0 j 0 (by decide), hk5 1 j 0 (by decide)]
          exact hhm j
        · intro a b c ha
          rw [hk5 a b c (by omega)]
          exact hkm a b c ha
        · intro l2 hl2 t k a b
          rw [hk5 0 _ 0 (by decide), hk5 1 _ 0 (by decide)]
          exact hvt l2 (by omega) t k a b
        · have e9 : legsS τ to T (N + 1) s m = x :: legsS τ to T N (τ 5 x.1 x.2.2) (srt τ x.1 x.2.2) := by
            rw [legsS, firstL_eq hx]
          rw [e9]
          exact a
theorem R_lead (wt : WF τ) (hw : Wd σ κ τ μ z w) {b s m : Nat} (hb : b < 60) (hs : s < 10) (hm : m < 1000000) (hhm : HM μ) : Rx (p_X6_lead (nI b) (nI s) (nI m)) w (fun v w' => ∃ μ', KM3 μ' μ ∧ HM μ' ∧ ((bestS τ (toS τ (cur τ b)) (3 - τ 9 (cur τ b) 2) s m = none ∧ v = 0 ∧ Wd σ κ τ μ' z w') ∨ ∃ T N, bestS τ (toS τ (cur τ b)) (3 - τ 9 (cur τ b) 2) s m = some (T, N) ∧ v = 1 ∧ Wd σ κ (endS (addG τ (cur τ b) (legsS τ (toS τ (cur τ b)) T N s m)) (cur τ b) T) μ' z w')) NE := by
  have hi := cur_lt wt hb
  have hto := (wt.fromb (cur τ b)).2.2.2.1
  have hmany := (wt.way (cur τ b)).2.1
  unfold p_X6_lead
  (repeat (first | with_reducible refine Rx_assoc ?_ | (simp (disch := omega) only [nL_0, nL_1, nL_2, nL_3, nL_4, nL_5, nL_6, nL_7, nL_10, nL_16, nL_31, nL_40, nL_60, nL_120, nL_160, nL_1439, nL_1000000, nL_10000000, nL_268435456, nI_clamp, nI_1, nI_add, nI_sub, nI_pred, nI_mulI]) | with_reducible refine Rx_rd (g_row3 (by first | assumption | omega)) ?_ | with_reducible refine Rx_rd (g_row4 (by first | assumption | omega)) ?_ | with_reducible refine Rx_rd (g_chk0 hw) ?_ | with_reducible refine Rx_rd (g_chk01 hw) ?_ | with_reducible refine Rx_rd (g_chk1 hw (by first | assumption | omega)) ?_ | with_reducible refine Rx_rd (g_chk2 hw) ?_ | with_reducible refine Rx_rd (g_chk3 hw) ?_ | with_reducible refine Rx_rd (g_chk4 hw (by first | assumption | omega)) ?_ | with_reducible refine Rx_rd (g_chk5 hw (by first | assumption | omega)) ?_ | with_reducible refine Rx_rd (g_chk6 hw) ?_ | with_reducible refine Rx_rd (g_chk7 hw) ?_ | with_reducible refine Rx_rd (g_gO0 hw (by first | assumption | omega)) ?_ | with_reducible refine Rx_rd (g_gB hw (by first | assumption | omega) (by first | assumption | omega)) ?_ | with_reducible refine Rx_rd (g_st hw) ?_ | with_reducible refine Rx_rd (g_ca hw) ?_ | with_reducible refine Rx_rd (g_now hw) ?_ | with_reducible refine Rx_rd (g_sort hw (by first | assumption | omega)) ?_ | with_reducible refine Rx_rd (g_room hw (by first | assumption | omega)) ?_ | with_reducible refine Rx_rd (g_stops hw (by first | assumption | omega)) ?_ | with_reducible refine Rx_rd (g_canc hw (by first | assumption | omega)) ?_ | with_reducible refine Rx_rd (g_sta hw (by first | assumption | omega) (by first | assumption | omega)) ?_ | with_reducible refine Rx_rd (g_min hw (by first | assumption | omega) (by first | assumption | omega)) ?_ | with_reducible refine Rx_rd (g_load hw (by first | assumption | omega) (by first | assumption | omega)) ?_ | with_reducible refine Rx_rd (g_from hw (by first | assumption | omega)) ?_ | with_reducible refine Rx_rd (g_wfrom hw (by first | assumption | omega)) ?_ | with_reducible refine Rx_rd (g_ready hw (by first | assumption | omega)) ?_ | with_reducible refine Rx_rd (g_to hw (by first | assumption | omega)) ?_ | with_reducible refine Rx_rd (g_wto hw (by first | assumption | omega)) ?_ | with_reducible refine Rx_rd (g_due hw (by first | assumption | omega)) ?_ | with_reducible refine Rx_rd (g_many hw (by first | assumption | omega)) ?_ | with_reducible refine Rx_rd (g_had hw (by first | assumption | omega)) ?_ | with_reducible refine Rx_rd (g_there hw (by first | assumption | omega)) ?_ | with_reducible refine Rx_rd (g_stands hw (by first | assumption | omega)) ?_ | with_reducible refine Rx_rd (g_since hw (by first | assumption | omega)) ?_ | with_reducible refine Rx_rd (g_off hw (by first | assumption | omega)) ?_ | with_reducible refine Rx_rd (g_leg hw (by first | assumption | omega) (by first | assumption | omega)) ?_ | with_reducible refine Rx_rd (g_days hw (by first | assumption | omega)) ?_ | with_reducible refine Rx_rd (g_earl hw (by first | assumption | omega) (by first | assumption | omega)) ?_ | with_reducible refine Rx_rd (g_late hw (by first | assumption | omega) (by first | assumption | omega)) ?_ | with_reducible refine Rx_rd (g_marks hw (by first | assumption | omega)) ?_ | with_reducible refine Rx_rd (h_code hw) ?_ | with_reducible refine Rx_rd (h_now hw) ?_ | with_reducible refine Rx_rd (h_st hw) ?_ | with_reducible refine Rx_rd (h_tr hw) ?_ | with_reducible refine Rx_rd (h_bx hw) ?_ | with_reducible refine Rx_rd (h_ca hw) ?_ | with_reducible refine Rx_rd (h_sort hw (by first | assumption | omega)) ?_ | with_reducible refine Rx_rd (h_room hw (by first | assumption | omega)) ?_ | with_reducible refine Rx_rd (h_stops hw (by first | assumption | omega)) ?_ | with_reducible refine Rx_rd (h_sta hw (by first | assumption | omega) (by first | assumption | omega)) ?_ | with_reducible refine Rx_rd (h_min hw (by first | assumption | omega) (by first | assumption | omega)) ?_ | with_reducible refine Rx_rd (h_load hw (by first | assumption | omega) (by first | assumption | omega)) ?_ | with_reducible refine Rx_rd (h_days hw (by first | assumption | omega)) ?_ | with_reducible refine Rx_rd (h_canc hw (by first | assumption | omega)) ?_ | with_reducible refine Rx_rd (h_home hw (by first | assumption | omega)) ?_ | with_reducible refine Rx_rd (h_walk hw (by first | assumption | omega)) ?_ | with_reducible refine Rx_rd (h_ready hw (by first | assumption | omega)) ?_ | with_reducible refine Rx_rd (h_desk hw (by first | assumption | omega)) ?_ | with_reducible refine Rx_rd (h_walkT hw (by first | assumption | omega)) ?_ | with_reducible refine Rx_rd (h_due hw (by first | assumption | omega)) ?_ | with_reducible refine Rx_rd (h_rback hw (by first | assumption | omega)) ?_ | with_reducible refine Rx_rd (h_emp hw (by first | assumption | omega)) ?_ | with_reducible refine Rx_rd (h_had hw (by first | assumption | omega)) ?_ | with_reducible refine Rx_rd (h_has hw (by first | assumption | omega)) ?_ | with_reducible refine Rx_rd (h_many hw (by first | assumption | omega)) ?_ | with_reducible refine Rx_rd (h_stands hw (by first | assumption | omega)) ?_ | with_reducible refine Rx_rd (h_since hw (by first | assumption | omega) (by first | assumption | omega)) ?_ | with_reducible refine Rx_rd (h_legT hw (by first | assumption | omega) (by first | assumption | omega)) ?_ | with_reducible refine Rx_rd (h_legN hw (by first | assumption | omega) (by first | assumption | omega)) ?_ | with_reducible refine Rx_rd (h_legF hw (by first | assumption | omega) (by first | assumption | omega)) ?_ | with_reducible refine Rx_rd (h_early hw (by first | assumption | omega)) ?_ | with_reducible refine Rx_rd (h_few hw (by first | assumption | omega)) ?_ | with_reducible refine Rx_rd (h_bT hw) ?_ | with_reducible refine Rx_rd (h_bL hw) ?_ | with_reducible refine Rx_rd (h_bt hw) ?_ | with_reducible refine Rx_rd (h_bon hw) ?_ | with_reducible refine Rx_rd (h_boff hw) ?_ | with_reducible refine Rx_rd (h_gives hw (by first | assumption | omega)) ?_ | with_reducible refine Rx_rd (g_sz0 hw) ?_ | with_reducible refine Rx_rd (g_sz1 hw) ?_ | with_reducible refine Rx_rd (g_gt0 hw (by first | assumption | omega)) ?_ | with_reducible refine Rx_rd (g_gt1 hw (by first | assumption | omega)) ?_ | with_reducible refine Rx_rd (r_sortedAt hw (by first | assumption | omega) (by first | assumption | omega) (by first | assumption | omega)) ?_ | with_reducible refine Rx_rd (r_isFull hw (by first | assumption | omega) (by first | assumption | omega)) ?_ | with_reducible refine Rx_rd (r_stands hw wf (by first | assumption | omega)) ?_ | with_reducible refine Rx_rd (r_hasWay hw wf (by first | assumption | omega)) ?_ | with_reducible refine Rx_rd (r_arrivalY hw wf (by first | assumption | omega) (by first | assumption | omega)) ?_ | with_reducible refine Rx_rd (r_arrivedBy hw wf (by first | assumption | omega) (by first | assumption | omega)) ?_ | with_reducible refine Rx_rd (r_goneBy hw wf (by first | assumption | omega) (by first | assumption | omega)) ?_ | with_reducible refine Rx_rd (r_isLate hw wf (by first | assumption | omega)) ?_ | with_reducible refine Rx_rd (r_thereBy hw wf (by first | assumption | omega) (by first | assumption | omega)) ?_ | with_reducible refine Rx_rd (r_current hw (by first | assumption | omega)) ?_ | with_reducible refine Rx_rd (r_isEmpty hw (by first | assumption | omega)) ?_ | with_reducible refine Rx_rd (r_legNumber hw (by first | assumption | omega) (by first | assumption | omega)) ?_ | with_reducible refine Rx_rd (r_ledLegs hw wf (by first | assumption | omega)) ?_ | with_reducible refine Rx_rd (r_beginning hw wf (by first | assumption | omega)) ?_ | with_reducible refine Rx_rd (r_mayFollow hw wf (by first | assumption | omega) (by first | assumption | omega) (by first | assumption | omega)) ?_ | with_reducible refine Rx_rd (r_beginsAfter hw wf (by first | assumption | omega) (by first | assumption | omega)) ?_ | with_reducible refine Rx_rd (r_node hw) ?_ | with_reducible refine Rx_rd (r_legAt hw) ?_ | with_reducible refine Rx_rd (r_Mway hw wt (by first | assumption | omega)) ?_ | with_reducible refine Rx_rd (r_Mto hw wt (by first | assumption | omega)) ?_ | with_reducible refine Rx_rd (r_Mfrom hw wt (by first | assumption | omega)) ?_ | with_reducible refine Rx_rd (r_Mready hw wt (by first | assumption | omega)) ?_ | with_reducible refine Rx_rd (r_Msorted hw wt (by first | assumption | omega)) ?_ | with_reducible refine Rx_rd (r_Mbehind hw wt (by first | assumption | omega) (by first | assumption | omega) (by first | assumption | omega)) ?_ | with_reducible refine Rx_rd (r_Mthere hw wt (by first | assumption | omega)) ?_ | with_reducible refine Rx_rd (r_Mfree hw (by first | assumption | omega) (by first | assumption | omega) (by first | assumption | omega)) ?_ | with_reducible refine Rx_rd (r_Mgone hw wt (by first | assumption | omega)) ?_ | with_reducible refine Rx_rd (r_Mlate hw wt (by first | assumption | omega)) ?_))
  refine Rx_cn (R_reckon wt hw hto hhm) (fun _ w1 ⟨μ1, hw1, hk1, hv1, hh1⟩ => ?_)
  refine Rx_rd (g_chk7 hw1) ?_
  refine Rx_rd (h_many hw1 hi) ?_
  rw [nI_sub hmany]
  refine Rx_assoc ?_
  refine Rx_rd (g_chk7 hw1) ?_
  refine Rx_cn (R_look wt.inc wt.wb hw1 (by omega) hs hm hto hh1 (fun l' hl' => hv1 l' (by omega))) (fun _ w2 ⟨μ2, hw2, hk2, hlk⟩ => ?_)
  have km2 : KM3 μ2 μ := fun a b c ha => by rw [hk2 a b c (by omega)]; exact hk1 a b c ha
  have hh2 : HM μ2 := fun j => by rw [hk2 0 j 0 (by decide), hk2 1 j 0 (by decide)]; exact hh1 j
  have hb4 := hlk.hm (by omega)
  refine Rx_rd (h_bT hw2) ?_
  have hlk0 := hlk
  rcases hlk with ⟨a1, a2, a3, a4⟩ | ⟨a1, a2, a3⟩
  · refine Rx_neg ?_ ?_
    · rw [a1]; decide
    · exact Rx_rtZ0 ⟨μ2, km2, hh2, Or.inl ⟨bestS_none a4, rfl, hw2⟩⟩
  · refine Rx_pos ?_ ?_
    · rw [nI_ltI (by omega) (by omega)]; exact a2
    · refine L_lead52 (f := 4095) wt hi hto (μ0 := μ) (T := μ2 2 0 0) (μ2 2 1 0) (3 - τ 9 (cur τ b) 2) s m τ μ2 w2 a1 hlk0 (by omega) (by omega) hw2 (fun _ _ _ _ _ => rfl) (by have := a1.1; omega) hh2 km2 (fun l' hl' t k x y => ?_) (fun μ3 w3 hw3 km3 hh3 => ?_)
      · rw [hk2 0 _ 0 (by decide), hk2 1 _ 0 (by decide)]
        exact hv1 l' (by omega) t k x y
      · refine Rx_rd (g_chk7 hw3) ?_
        obtain ⟨w4, e4, hw4⟩ := t_had (v := 1) hw3 hi
        refine Rx_rd (w' := w4) (v := ()) ((if_pos (Or.inr rfl)).trans e4) ?_
        refine Rx_rd (g_chk7 hw4) ?_
        obtain ⟨w5, e5, hw5⟩ := t_has1 (T := μ2 2 0 0) hw4 hi
        refine Rx_rd (w' := w5) (v := ()) ((if_pos (Or.inr rfl)).trans e5) ?_
        refine Rx_rd (g_chk7 hw5) ?_
        refine Rx_set (t_standsN hw5 hi) (fun w6 hw6 => ?_)
        exact Rx_rtZ1 ⟨μ3, km3, hh3, Or.inr ⟨_, _, bestS_eq a1, rfl, hw6⟩⟩
end LEAD
