section OPS4
variable {σ κ τ μ : SG} {z : BB} {w : PS}
theorem nI_bI {c : Prop} [Decidable c] : bI c = nI (if c then 1 else 0) := by
  by_cases h : c
  · rw [bI_t h, if_pos h]; rfl
  · rw [bI_f h, if_neg h]; rfl
theorem Rx_num {c : Prop} [Decidable c] {Q : Int32 → PS → Prop} {E : String → PS → Prop} (h : Q (bI c) w) : Rx (if bI c = 0 then prt (0 : Int32) else prt (1 : Int32)) w Q E := by
  refine Rx_ifb (fun q => Rx_rt ?_) (fun q => Rx_rt ?_)
  · rw [bI_f q] at h; exact h
  · rw [bI_t q] at h; exact h
/-- the class fails at the box; the reference too -/
theorem op_nobox {f : Nat → PM Int32} {pm : PM Int32} {x : Int32} (hv : INV3 σ) (hx : nnB σ x) (hpm : ∀ σc κ μ z w, HM μ → Wd σc κ σ μ z w → Rx pm w (fun _ w' => ∃ μ', Wd σc κ σ μ' z w' ∧ HM μ' ∧ μ' 5 0 0 = 1) NE) : Op (pbnd (pbnd (pchk 6 0) fun _ => p_X5_boxOf x) f) pm cf1 sN σ := by
  refine ⟨.inr eN, rfl, σ, hv, fun κ τ μ z w hw => ?_, fun σc κ μ z w hm hw => hpm σc κ μ z w hm hw⟩
  refine Rx_assoc ?_
  refine Rx_rd (g_chk6 hw) ?_
  exact Rx_thrown (q_boxOfN hv.1.1 hw hx) ⟨rfl, κ, hw.thr⟩
theorem op_of (hv : INV3 σ) (x y : Int32) : Op (p_X5_of x y) (p_X6_of x y) cf1 sN σ := by
  have wf := hv.1.1
  have hbx := wf.bx
  have hnow := wf.now
  rcases isB_or (σ := σ) x with hx | ⟨b, hb, rfl⟩
  · unfold p_X5_of
    refine op_nobox hv hx (fun σc κ μ z w hm hw => ?_)
    unfold p_X6_of
    rw [nL_0]
    refine Rx_set (t_code hw) (fun w1 hw1 => ?_)
    refine Rx_assoc ?_
    refine Rx_rd (g_chk7 hw1) ?_
    refine Rx_rd (q_isB hw1 wf hx) ?_
    exact Rx_pos rfl (Rx_failp (hm.code 0) hw1)
  · have hb6 : b < 60 := by omega
    have hi := cur_ok wf hb
    have hi2 := cur_lt wf hb6
    have hway := wf.way (cur σ b)
    have hem := (wf.box b).2.2.2.2.2.2.1
    have cls : ∀ (r : RS) (p : Nat → Nat → PM Int32), (∀ κ τ μ z w, Wd σ κ τ μ z w → Rx (p b (cur σ b)) w (fun v w' => r = .inl v ∧ ∃ κ', Wd σ κ' τ μ z w') (fun e w' => r = .inr e ∧ ∃ κ', Wd σ κ' τ μ (z.1 + 1, z.2.1 + 6, z.2.2) w')) → Cls (pbnd (pbnd (pchk 6 0) fun _ => p_X5_boxOf (nI b)) fun v2 => pbnd (pbnd (pchk 1 v2) fun _ => p_X0_current v2) fun v7 => p v2 v7) σ σ r := by
      intro r p h κ τ μ z w hw
      refine Rx_assoc ?_
      refine Rx_rd (g_chk6 hw) ?_
      refine Rx_rd (q_boxOf wf hw hb) ?_
      refine Rx_assoc ?_
      refine Rx_rd (g_chk1 hw hb) ?_
      refine Rx_rd (r_current hw hb) ?_
      exact h κ τ μ z w hw
    have rfr : ∀ (r : RS) (p : Int32 → PM Int32), (∀ σc κ μ z w, HM μ → μ 5 0 0 = 0 → Wd σc κ σ μ z w → Rx (p (nI (cur σ b))) w (fun v w' => ∃ μ', Wd σc κ σ μ' z w' ∧ HM μ' ∧ (match r with | .inl a => v = a ∧ μ' 5 0 0 = 0 | .inr e => μ' 5 0 0 = cf1 e)) NE) → Rfr (pbnd (ppI 7 0 0 (0 : Int32)) fun _ => pbnd (pbnd (pchk 7 0) fun _ => p_X6_isBox (nI b)) fun v7 => (if v7 = 0 then pbnd (pbnd (pchk 7 0) fun _ => p_X6_fail) fun v14 => prt v14 else pbnd (pbnd (pchk 7 0) fun _ => p_X6_wayOf (nI b)) fun v20 => p v20)) cf1 σ σ r := by
      intro r p h σc κ μ z w hm hw
      rw [nL_0]
      refine Rx_set (t_code hw) (fun w1 hw1 => ?_)
      refine Rx_assoc ?_
      refine Rx_rd (g_chk7 hw1) ?_
      refine Rx_rd (q_isBy hw1 wf hb) ?_
      refine Rx_neg (by decide) ?_
      refine Rx_assoc ?_
      refine Rx_rd (g_chk7 hw1) ?_
      refine Rx_rd (r_Mway hw1 wf hb6) ?_
      exact h σc κ _ z w1 (hm.code 0) us_code hw1
    unfold p_X5_of p_X6_of p_X6_of_b94 p_X6_of_b108 p_X6_of_b136 p_X6_of_b151
    by_cases y0 : y = 0
    · refine ⟨.inl (nI (σ 9 (cur σ b) 2)), trivial, σ, hv, cls _ _ (fun κ τ μ z w hw => ?_), rfr _ _ (fun σc κ μ z w hm h5 hw => ?_)⟩
      · exact Rx_pos y0 (Rx_rd (g_many hw hi) (Rx_rt ⟨rfl, κ, hw⟩))
      · exact Rx_pos y0 (Rx_rd (g_chk7 hw) (Rx_rd (h_many hw hi2) (Rx_rt ⟨μ, hw, hm, rfl, h5⟩)))
    by_cases y1 : y = 1
    · refine ⟨.inl (if σ 9 (cur σ b) 5 = 0 then -1 else nI (arrS σ (cur σ b))), trivial, σ, hv, cls _ _ (fun κ τ μ z w hw => ?_), rfr _ _ (fun σc κ μ z w hm h5 hw => ?_)⟩
      · exact Rx_neg y0 (Rx_pos y1 (Rx_assoc (Rx_rd (g_chk5 hw hi) (Rx_rd (q_arrival hw wf hi) (Rx_rt ⟨rfl, κ, hw⟩)))))
      · exact Rx_neg y0 (Rx_pos y1 (Rx_assoc (Rx_rd (g_chk7 hw) (Rx_rd (q_Marr hw wf hb6) (Rx_rt ⟨μ, hw, hm, rfl, h5⟩)))))
    by_cases y2 : y = 2
    · refine ⟨.inl (bI (σ 9 (cur σ b) 0 ≠ 0 ∧ readyS σ (cur σ b) ≤ σ 0 0 0)), trivial, σ, hv, cls _ _ (fun κ τ μ z w hw => ?_), rfr _ _ (fun σc κ μ z w hm h5 hw => ?_)⟩
      · exact Rx_neg y0 (Rx_neg y1 (Rx_pos y2 (Rx_rd (g_now hw) (Rx_assoc (Rx_rd (g_chk5 hw hi) (Rx_rd (r_goneBy hw wf hi (by omega)) (Rx_rd q_asN (Rx_rt ⟨rfl, κ, hw⟩))))))))
      · exact Rx_neg y0 (Rx_neg y1 (Rx_pos y2 (Rx_assoc (Rx_rd (g_chk7 hw) (Rx_rd (r_Mgone hw wf hb6) (Rx_num ⟨μ, hw, hm, rfl, h5⟩))))))
    by_cases y3 : y = 3
    · refine ⟨.inl (bI (σ 9 (cur σ b) 5 ≠ 0 ∧ dueS σ (cur σ b) < arrS σ (cur σ b))), trivial, σ, hv, cls _ _ (fun κ τ μ z w hw => ?_), rfr _ _ (fun σc κ μ z w hm h5 hw => ?_)⟩
      · exact Rx_neg y0 (Rx_neg y1 (Rx_neg y2 (Rx_pos y3 (Rx_assoc (Rx_rd (g_chk5 hw hi) (Rx_rd (r_isLate hw wf hi) (Rx_rd q_asN (Rx_rt ⟨rfl, κ, hw⟩))))))))
      · exact Rx_neg y0 (Rx_neg y1 (Rx_neg y2 (Rx_pos y3 (Rx_assoc (Rx_rd (g_chk7 hw) (Rx_rd (r_Mlate hw wf hb6) (Rx_num ⟨μ, hw, hm, rfl, h5⟩)))))))
    by_cases y4 : y = 4
    · refine ⟨.inl (m1 (σ 9 (cur σ b) 3)), trivial, σ, hv, cls _ _ (fun κ τ μ z w hw => ?_), rfr _ _ (fun σc κ μ z w hm h5 hw => ?_)⟩
      · exact Rx_neg y0 (Rx_neg y1 (Rx_neg y2 (Rx_neg y3 (Rx_pos y4 (Rx_rd (g_stands hw hi) (Rx_rt ⟨rfl, κ, hw⟩))))))
      · exact Rx_neg y0 (Rx_neg y1 (Rx_neg y2 (Rx_neg y3 (Rx_pos y4 (Rx_rd (g_chk7 hw) (Rx_rd (h_stands hw hi2) (Rx_rt ⟨μ, hw, hm, rfl, h5⟩)))))))
    by_cases y5 : y = 5
    · refine ⟨.inl (if σ 9 (cur σ b) 3 = 0 then -1 else nI (σ 9 (cur σ b) 4)), trivial, σ, hv, cls _ _ (fun κ τ μ z w hw => ?_), rfr _ _ (fun σc κ μ z w hm h5 hw => ?_)⟩
      · exact Rx_neg y0 (Rx_neg y1 (Rx_neg y2 (Rx_neg y3 (Rx_neg y4 (Rx_pos y5 (Rx_rd (g_since hw hi) (Rx_rt ⟨rfl, κ, hw⟩)))))))
      · refine Rx_neg y0 (Rx_neg y1 (Rx_neg y2 (Rx_neg y3 (Rx_neg y4 (Rx_pos y5 (Rx_rd (g_chk7 hw) (Rx_rd (h_stands hw hi2) ?_)))))))
        by_cases h3 : σ 9 (cur σ b) 3 = 0
        · rw [h3]
          exact Rx_pos rfl (Rx_rt ⟨μ, hw, hm, by rw [if_pos rfl], h5⟩)
        · refine Rx_neg (by rw [m1_neg (by omega)]; exact h3) ?_
          refine Rx_rd (g_chk7 hw) ?_
          refine Rx_rd (h_since hw hi2 h3) ?_
          exact Rx_rt ⟨μ, hw, hm, by rw [if_neg h3], h5⟩
    by_cases y6 : y = 6
    · refine ⟨.inl (bI (σ 8 b 6 ≠ 0)), trivial, σ, hv, ?_, rfr _ _ (fun σc κ μ z w hm h5 hw => ?_)⟩
      · intro κ τ μ z w hw
        refine Rx_assoc ?_
        refine Rx_rd (g_chk6 hw) ?_
        refine Rx_rd (q_boxOf wf hw hb) ?_
        refine Rx_assoc ?_
        refine Rx_rd (g_chk1 hw hb) ?_
        refine Rx_rd (r_current hw hb) ?_
        exact Rx_neg y0 (Rx_neg y1 (Rx_neg y2 (Rx_neg y3 (Rx_neg y4 (Rx_neg y5 (Rx_pos y6 (Rx_assoc (Rx_rd (g_chk1 hw hb) (Rx_rd (r_isEmpty hw hb) (Rx_rd q_asN (Rx_rt ⟨rfl, κ, hw⟩)))))))))))
      · refine Rx_neg y0 (Rx_neg y1 (Rx_neg y2 (Rx_neg y3 (Rx_neg y4 (Rx_neg y5 (Rx_pos y6 (Rx_rd (g_chk7 hw) (Rx_rd (h_emp hw hb6) ?_))))))))
        refine Rx_if (fun h => Rx_rt ⟨μ, hw, hm, ?_, h5⟩) (fun h => Rx_rt ⟨μ, hw, hm, ?_, h5⟩)
        · simp (disch := omega) only [nL_0, nL_1, nL_2, nL_3, nL_4, nL_5, nL_6, nL_7, nL_10, nL_16, nL_31, nL_40, nL_60, nL_120, nL_160, nL_1439, nL_1000000, nL_10000000, nL_268435456, nI_ltI, nI_leI, nI_eq, Int32.not_lt, Int32.not_le, Nat.not_lt, Nat.not_le, m1_eqn, m1_eqm, nI_nem, ge_iff_le, gt_iff_lt] at h
          exact (bI_f (by omega)).symm
        · simp (disch := omega) only [nL_0, nL_1, nL_2, nL_3, nL_4, nL_5, nL_6, nL_7, nL_10, nL_16, nL_31, nL_40, nL_60, nL_120, nL_160, nL_1439, nL_1000000, nL_10000000, nL_268435456, nI_ltI, nI_leI, nI_eq, Int32.not_lt, Int32.not_le, Nat.not_lt, Nat.not_le, m1_eqn, m1_eqm, nI_nem, ge_iff_le, gt_iff_lt] at h
          exact (bI_t h).symm
    · refine ⟨.inr eN, rfl, σ, hv, cls _ _ (fun κ τ μ z w hw => ?_), rfr _ _ (fun σc κ μ z w hm h5 hw => ?_)⟩
      · exact Rx_neg y0 (Rx_neg y1 (Rx_neg y2 (Rx_neg y3 (Rx_neg y4 (Rx_neg y5 (Rx_neg y6 (Rx_thr ⟨rfl, κ, hw.thr⟩)))))))
      · exact Rx_neg y0 (Rx_neg y1 (Rx_neg y2 (Rx_neg y3 (Rx_neg y4 (Rx_neg y5 (Rx_neg y6 (Rx_failp hm hw)))))))
/-! leg -/
theorem q_ledLeg (wf : WF σ) (hw : Wd σ κ τ μ z w) {b i c : Nat} (hb : b < σ 0 3 0) (hi : i < σ 9 (2 * b) 2 + σ 9 (2 * b + 1) 2) (hc : c < 3) : p_X0_ledLeg b (nI i) (nI c) w = some (.inl (nI (if i < σ 9 (2 * b) 2 then σ 10 (2 * b) (3 * i + c) else σ 10 (2 * b + 1) (3 * (i - σ 9 (2 * b) 2) + c))), w) := by
  have h2 := two_ok hb
  have w1 := wf.way (2 * b)
  have w2 := wf.way (2 * b + 1)
  refine Rx_un ?_
  unfold p_X0_ledLeg p_X0_ledLeg_b18
  have th : i < σ 9 (2 * b) 2 → Rx (pbnd (pchk 1 b) fun _ => pbnd (pbnd (pchk 5 (2 * b)) fun _ => p_X4_legNumber (2 * b) (nI i) (nI c)) fun v24 => prt v24) w (fun a w' => a = nI (if i < σ 9 (2 * b) 2 then σ 10 (2 * b) (3 * i + c) else σ 10 (2 * b + 1) (3 * (i - σ 9 (2 * b) 2) + c)) ∧ w' = w) NE := by
    intro h
    refine Rx_rd (g_chk1 hw hb) ?_
    refine Rx_assoc ?_
    refine Rx_rd (g_chk5 hw h2) ?_
    refine Rx_rd (r_legNumber hw h2 (by omega)) ?_
    exact Rx_rt ⟨by rw [if_pos h], rfl⟩
  refine Rx_rd (g_gO0 hw hb) ?_
  refine Rx_ifo (fun h => ?_) (fun h => ?_)
  · have := (wf.freshW (2 * b + 1) (Or.inr ⟨by omega, by rw [show (2 * b + 1) / 2 = b by omega]; exact h⟩)).2.1
    exact th (by omega)
  · refine Rx_rd (g_chk1 hw hb) ?_
    refine Rx_rd (g_many hw h2) ?_
    refine Rx_if (fun h3 => ?_) (fun h3 => ?_)
    · rw [nI_leI (by omega) (by omega)] at h3
      have h4 := back_ok hb h
      refine Rx_rd (g_gB hw hb h) ?_
      refine Rx_rd (g_chk1 hw hb) ?_
      refine Rx_rd (g_many hw h2) ?_
      refine Rx_assoc ?_
      refine Rx_rd (g_chk5 hw h4) ?_
      rw [nI_sub h3]
      refine Rx_rd (r_legNumber hw h4 (by omega)) ?_
      exact Rx_rt ⟨by rw [if_neg (by omega)], rfl⟩
    · rw [nI_leI (by omega) (by omega)] at h3
      exact th (by omega)
theorem q_Mleg (hw : Wd σ κ τ μ z w) {i j c : Nat} (hi : i < 120) (hj : j < 3) (hc : c < 3) : p_X6_leg_b94 (nI c) (nI (3 * i + j)) w = some (.inl (nI (τ 10 i (3 * j + c))), w) := by
  refine Rx_un ?_
  unfold p_X6_leg_b94 p_X6_leg_b132
  refine Rx_if (fun h => ?_) (fun h => ?_)
  · simp (disch := omega) only [nL_0, nL_1, nL_2, nL_3, nL_4, nL_5, nL_6, nL_7, nL_10, nL_16, nL_31, nL_40, nL_60, nL_120, nL_160, nL_1439, nL_1000000, nL_10000000, nL_268435456, nI_ltI, nI_leI, nI_eq, Int32.not_lt, Int32.not_le, Nat.not_lt, Nat.not_le, m1_eqn, m1_eqm, nI_nem, ge_iff_le, gt_iff_lt] at h
    subst h
    exact Rx_rd (g_chk7 hw) (Rx_rd (h_legT hw hi hj) (Rx_rt ⟨rfl, rfl⟩))
  · simp (disch := omega) only [nL_0, nL_1, nL_2, nL_3, nL_4, nL_5, nL_6, nL_7, nL_10, nL_16, nL_31, nL_40, nL_60, nL_120, nL_160, nL_1439, nL_1000000, nL_10000000, nL_268435456, nI_ltI, nI_leI, nI_eq, Int32.not_lt, Int32.not_le, Nat.not_lt, Nat.not_le, m1_eqn, m1_eqm, nI_nem, ge_iff_le, gt_iff_lt] at h
    refine Rx_if (fun h2 => ?_) (fun h2 => ?_)
    · simp (disch := omega) only [nL_0, nL_1, nL_2, nL_3, nL_4, nL_5, nL_6, nL_7, nL_10, nL_16, nL_31, nL_40, nL_60, nL_120, nL_160, nL_1439, nL_1000000, nL_10000000, nL_268435456, nI_ltI, nI_leI, nI_eq, Int32.not_lt, Int32.not_le, Nat.not_lt, Nat.not_le, m1_eqn, m1_eqm, nI_nem, ge_iff_le, gt_iff_lt] at h2
      subst h2
      exact Rx_rd (g_chk7 hw) (Rx_rd (h_legN hw hi hj) (Rx_rt ⟨rfl, rfl⟩))
    · simp (disch := omega) only [nL_0, nL_1, nL_2, nL_3, nL_4, nL_5, nL_6, nL_7, nL_10, nL_16, nL_31, nL_40, nL_60, nL_120, nL_160, nL_1439, nL_1000000, nL_10000000, nL_268435456, nI_ltI, nI_leI, nI_eq, Int32.not_lt, Int32.not_le, Nat.not_lt, Nat.not_le, m1_eqn, m1_eqm, nI_nem, ge_iff_le, gt_iff_lt] at h2
      have : c = 2 := by omega
      subst this
      exact Rx_rd (g_chk7 hw) (Rx_rd (h_legF hw hi hj) (Rx_rt ⟨rfl, rfl⟩))
theorem op_leg (hv : INV3 σ) (x y q : Int32) : Op (p_X5_leg x y q) (p_X6_leg x y q) cf1 sN σ := by
  have wf := hv.1.1
  have hbx := wf.bx
  rcases isB_or (σ := σ) x with hx | ⟨b, hb, rfl⟩
  · unfold p_X5_leg
    refine op_nobox hv hx (fun σc κ μ z w hm hw => ?_)
    unfold p_X6_leg p_X6_leg_b49
    rw [nL_0]
    refine Rx_set (t_code hw) (fun w1 hw1 => ?_)
    refine Rx_assoc ?_
    refine Rx_rd (g_chk7 hw1) ?_
    refine Rx_rd (q_isB hw1 wf hx) ?_
    exact Rx_pos rfl (Rx_failp (hm.code 0) hw1)
  · have hb6 : b < 60 := by omega
    have w1 := wf.way (2 * b)
    have w2 := wf.way (2 * b + 1)
    have c0 : ∀ (r : RS) (p : Nat → PM Int32), (∀ κ τ μ z w, Wd σ κ τ μ z w → Rx (p b) w (fun v w' => r = .inl v ∧ ∃ κ', Wd σ κ' τ μ z w') (fun e w' => r = .inr e ∧ ∃ κ', Wd σ κ' τ μ (z.1 + 1, z.2.1 + 6, z.2.2) w')) → Cls (pbnd (pbnd (pchk 6 0) fun _ => p_X5_boxOf (nI b)) fun v2 => p v2) σ σ r := by
      intro r p h κ τ μ z w hw
      refine Rx_assoc ?_
      refine Rx_rd (g_chk6 hw) ?_
      refine Rx_rd (q_boxOf wf hw hb) ?_
      exact h κ τ μ z w hw
    have r0 : ∀ (r : RS) (p : PM Int32), (∀ σc κ μ z w, HM μ → μ 5 0 0 = 0 → Wd σc κ σ μ z w → Rx p w (fun v w' => ∃ μ', Wd σc κ σ μ' z w' ∧ HM μ' ∧ (match r with | .inl a => v = a ∧ μ' 5 0 0 = 0 | .inr e => μ' 5 0 0 = cf1 e)) NE) → Rfr (pbnd (ppI 7 0 0 (0 : Int32)) fun _ => pbnd (pbnd (pchk 7 0) fun _ => p_X6_isBox (nI b)) fun v7 => (if v7 = 0 then p_X6_leg_b49 else p)) cf1 σ σ r := by
      intro r p h σc κ μ z w hm hw
      rw [nL_0]
      refine Rx_set (t_code hw) (fun w1 hw1 => ?_)
      refine Rx_assoc ?_
      refine Rx_rd (g_chk7 hw1) ?_
      refine Rx_rd (q_isBy hw1 wf hb) ?_
      exact Rx_neg (by decide) (h σc κ _ z w1 (hm.code 0) us_code hw1)
    unfold p_X5_leg p_X6_leg
    by_cases hgood : ∃ i c, y = nI i ∧ q = nI c ∧ i < σ 9 (2 * b) 2 + σ 9 (2 * b + 1) 2 ∧ c < 3
    · obtain ⟨i, c, rfl, rfl, h1, h2⟩ := hgood
      refine ⟨.inl (nI (if i < σ 9 (2 * b) 2 then σ 10 (2 * b) (3 * i + c) else σ 10 (2 * b + 1) (3 * (i - σ 9 (2 * b) 2) + c))), trivial, σ, hv, c0 _ _ (fun κ τ μ z w hw => ?_), r0 _ _ (fun σc κ μ z w hm h5 hw => ?_)⟩
      · refine Rx_neg (nI_pos (by omega)) ?_
        refine Rx_neg (by rw [nL_3, nI_leI (by omega) (by omega)]; omega) ?_
        refine Rx_neg (nI_pos (by omega)) ?_
        refine Rx_assoc ?_
        refine Rx_rd (g_chk1 hw hb) ?_
        refine Rx_rd (r_ledLegs hw wf hb) ?_
        refine Rx_pos (by rw [nI_ltI (by omega) (by omega)]; exact h1) ?_
        refine Rx_assoc ?_
        refine Rx_rd (g_chk1 hw hb) ?_
        refine Rx_rd (q_ledLeg wf hw hb h1 h2) ?_
        exact Rx_rt ⟨rfl, κ, hw⟩
      · refine Rx_neg (nI_pos (by omega)) ?_
        rw [nL_2, nL_1, nI_mulI, nI_add]
        refine Rx_rd (g_chk7 hw) ?_
        refine Rx_rd (h_many hw (by omega)) ?_
        refine Rx_rd (g_chk7 hw) ?_
        refine Rx_rd (h_many hw (by omega)) ?_
        refine Rx_neg (by rw [nI_add, nI_leI (by omega) (by omega)]; omega) ?_
        refine Rx_neg (nI_pos (by omega)) ?_
        refine Rx_pos (by rw [nI_leI (by omega) (by omega)]; omega) ?_
        refine Rx_rd (g_chk7 hw) ?_
        refine Rx_rd (h_many hw (by omega)) ?_
        refine Rx_if (fun h => ?_) (fun h => ?_)
        · rw [nI_leI (by omega) (by omega)] at h
          refine Rx_rd (g_chk7 hw) ?_
          refine Rx_rd (h_many hw (by omega)) ?_
          rw [nI_sub h]
          refine Rx_rd (r_legAt hw) ?_
          refine Rx_eq (q_Mleg hw (by omega) (by omega) h2) ⟨μ, hw, hm, ?_, h5⟩
          rw [if_neg (by omega)]
        · rw [nI_leI (by omega) (by omega)] at h
          refine Rx_rd (r_legAt hw) ?_
          refine Rx_eq (q_Mleg hw (by omega) (by omega) h2) ⟨μ, hw, hm, ?_, h5⟩
          rw [if_pos (by omega)]
    · refine ⟨.inr eN, rfl, σ, hv, c0 _ _ (fun κ τ μ z w hw => ?_), r0 _ _ (fun σc κ μ z w hm h5 hw => ?_)⟩
      · have fin : Rx p_X5_leg_b29 w (fun v w' => (.inr eN : RS) = .inl v ∧ ∃ κ', Wd σ κ' τ μ z w') (fun e w' => (.inr eN : RS) = .inr e ∧ ∃ κ', Wd σ κ' τ μ (z.1 + 1, z.2.1 + 6, z.2.2) w') := Rx_thr ⟨rfl, κ, hw.thr⟩
        rcases i_or q with hq | ⟨c, hc, rfl⟩
        · exact Rx_pos hq fin
        refine Rx_neg (nI_pos hc) ?_
        refine Rx_if (fun _ => fin) (fun h1 => ?_)
        rw [nL_3, nI_leI (by omega) (by omega)] at h1
        rcases i_or y with hy | ⟨i, hi, rfl⟩
        · exact Rx_pos hy fin
        refine Rx_neg (nI_pos hi) ?_
        refine Rx_assoc ?_
        refine Rx_rd (g_chk1 hw hb) ?_
        refine Rx_rd (r_ledLegs hw wf hb) ?_
        refine Rx_neg (fun e => ?_) fin
        rw [nI_ltI (by omega) (by omega)] at e
        exact hgood ⟨i, c, rfl, rfl, e, by omega⟩
      · have fin : Rx p_X6_leg_b49 w (fun v w' => ∃ μ', Wd σc κ σ μ' z w' ∧ HM μ' ∧ μ' 5 0 0 = 1) NE := Rx_failp hm hw
        rcases i_or y with hy | ⟨i, hi, rfl⟩
        · exact Rx_pos hy fin
        refine Rx_neg (nI_pos hi) ?_
        rw [nL_2, nL_1, nI_mulI, nI_add]
        refine Rx_rd (g_chk7 hw) ?_
        refine Rx_rd (h_many hw (by omega)) ?_
        refine Rx_rd (g_chk7 hw) ?_
        refine Rx_rd (h_many hw (by omega)) ?_
        rw [nI_add]
        refine Rx_if (fun _ => fin) (fun h1 => ?_)
        rw [nI_leI (by omega) (by omega)] at h1
        rcases i_or q with hq | ⟨c, hc, rfl⟩
        · exact Rx_pos hq fin
        refine Rx_neg (nI_pos hc) ?_
        refine Rx_neg (fun e => ?_) fin
        rw [nI_leI (by omega) (by omega)] at e
        exact hgood ⟨i, c, rfl, rfl, by omega, by omega⟩
/-! where -/
def onM (σ : SG) (i j : Nat) : Nat := σ 6 (σ 10 i (3 * j)) (σ 10 i (3 * j + 1))
def ofM (σ : SG) (i j : Nat) : Nat := σ 6 (σ 10 i (3 * j)) (σ 10 i (3 * j + 2))
theorem on_of (wf : WF σ) {i j : Nat} (h : j < σ 9 i 2) : onM σ i j < ofM σ i j := by
  have := wf.leg i j h
  exact wf.inc _ _ _ this.2.1 this.2.2
theorem of_on (wf : WF σ) {i : Nat} : ∀ {j' j : Nat}, j < j' → j' < σ 9 i 2 → ofM σ i j ≤ onM σ i j'
  | 0, j, h, _ => absurd h (Nat.not_lt_zero _)
  | j' + 1, j, h, h2 => by
    have hc := (wf.chain i j' h2).1
    have hs := srt_ge (σ := σ) (σ 10 i (3 * j')) (σ 10 i (3 * j' + 2))
    have e : ofM σ i j' ≤ onM σ i (j' + 1) := by unfold ofM onM; omega
    by_cases q : j = j'
    · subst q; exact e
    · have h3 := of_on wf (i := i) (j' := j') (j := j) (by omega) (by omega)
      have h4 := on_of wf (i := i) (j := j') (by omega)
      omega
theorem of_there (wf : WF σ) {i j : Nat} (h : j < σ 9 i 2) : ofM σ i j ≤ thereS σ i := by
  have hs := srt_ge (σ := σ) (σ 10 i (3 * (σ 9 i 2 - 1))) (σ 10 i (3 * (σ 9 i 2 - 1) + 2))
  unfold thereS
  rw [if_neg (by omega)]
  by_cases q : j = σ 9 i 2 - 1
  · rw [← q] at hs ⊢
    exact hs
  · have h1 := of_on wf (i := i) (j' := σ 9 i 2 - 1) (j := j) (by omega) (by omega)
    have h2 := on_of wf (i := i) (j := σ 9 i 2 - 1) (by omega)
    have : ofM σ i (σ 9 i 2 - 1) = σ 6 (σ 10 i (3 * (σ 9 i 2 - 1))) (σ 10 i (3 * (σ 9 i 2 - 1) + 2)) := rfl
    omega
theorem L_abd (wf : WF σ) (hw : Wd σ κ τ μ z w) {i nw : Nat} (hi : okW σ i) (hn : nw < 2 ^ 31) : ∀ (n f j : Nat), j + n = σ 9 i 2 → n ≤ f → (∀ j', j' < j → ¬ (onM σ i j' ≤ nw ∧ nw < ofM σ i j')) → Rx (p_X2_isAboard_L2 i (nI nw) (prtZ (0 : Int32)) (f + 1) (nI j)) w (fun v w' => w' = w ∧ ((v = 0 ∧ ∀ j', j' < σ 9 i 2 → ¬ (onM σ i j' ≤ nw ∧ nw < ofM σ i j')) ∨ (v = 1 ∧ ∃ j', j' < σ 9 i 2 ∧ onM σ i j' ≤ nw ∧ nw < ofM σ i j'))) NE := by
  have hway := wf.way i
  intro n
  induction n with
  | zero =>
    intro f j h1 h2 h3
    rw [p_X2_isAboard_L2]
    refine Rx_rd (g_many hw hi) ?_
    refine Rx_pos (by rw [nI_leI (by omega) (by omega)]; omega) ?_
    exact Rx_rtZ0 ⟨rfl, Or.inl ⟨rfl, fun j' hj' => h3 j' (by omega)⟩⟩
  | succ n ih =>
    intro f j h1 h2 h3
    obtain ⟨f', rfl⟩ : ∃ f', f = f' + 1 := ⟨f - 1, by omega⟩
    have hl := wf.leg i j (by omega)
    have ht := hl.1
    have htr := wf.tr
    have hst := wf.stops (σ 10 i (3 * j))
    have m1' := wf.min (σ 10 i (3 * j)) (σ 10 i (3 * j + 1))
    have m2' := wf.min (σ 10 i (3 * j)) (σ 10 i (3 * j + 2))
    have nx : ¬ (onM σ i j ≤ nw ∧ nw < ofM σ i j) → Rx (p_X2_isAboard_L2 i (nI nw) (prtZ (0 : Int32)) (f' + 1) (nI j + 1)) w (fun v w' => w' = w ∧ ((v = 0 ∧ ∀ j', j' < σ 9 i 2 → ¬ (onM σ i j' ≤ nw ∧ nw < ofM σ i j')) ∨ (v = 1 ∧ ∃ j', j' < σ 9 i 2 ∧ onM σ i j' ≤ nw ∧ nw < ofM σ i j'))) NE := by
      intro hno
      rw [nI_1]
      refine ih f' (j + 1) (by omega) (by omega) (fun j' hj' => ?_)
      by_cases q : j' = j
      · subst q; exact hno
      · exact h3 j' (by omega)
    rw [p_X2_isAboard_L2]
    unfold p_X2_isAboard_b49 p_X2_isAboard_b74
    refine Rx_rd (g_many hw hi) ?_
    refine Rx_neg (by rw [nI_leI (by omega) (by omega)]; omega) ?_
    refine Rx_rd (g_chk3 hw) ?_
    refine Rx_assoc ?_
    refine Rx_rd (g_chk5 hw hi) ?_
    refine Rx_rd (r_legNumber (c := 0) hw hi (by omega)) ?_
    rw [Nat.add_zero]
    refine Rx_assoc ?_
    refine Rx_rd (g_chk0 hw) ?_
    refine Rx_rd (g_gt0 hw ht) ?_
    rw [nI_clamp (by omega)]
    refine Rx_rd (g_chk4 hw ht) ?_
    refine Rx_rd (g_chk4 hw ht) ?_
    refine Rx_assoc ?_
    refine Rx_rd (g_chk5 hw hi) ?_
    refine Rx_rd (r_legNumber (c := 1) hw hi (by omega)) ?_
    refine Rx_rd (g_min hw ht (by omega)) ?_
    refine Rx_if (fun h => ?_) (fun h => ?_)
    · rw [nI_ltI (by omega) (by omega)] at h
      exact Rx_pos rfl (nx (fun q => by unfold onM at q; omega))
    · rw [nI_ltI (by omega) (by omega)] at h
      refine Rx_neg (by decide) ?_
      refine Rx_rd (g_chk4 hw ht) ?_
      refine Rx_assoc ?_
      refine Rx_rd (g_chk5 hw hi) ?_
      refine Rx_rd (r_legNumber (c := 2) hw hi (by omega)) ?_
      refine Rx_rd (g_min hw ht (by omega)) ?_
      refine Rx_if (fun h5 => ?_) (fun h5 => ?_)
      · rw [nI_leI (by omega) (by omega)] at h5
        exact nx (fun q => by unfold ofM at q; omega)
      · rw [nI_leI (by omega) (by omega)] at h5
        exact Rx_rtZ1 ⟨rfl, Or.inr ⟨rfl, j, by omega, by unfold onM; omega, by unfold ofM; omega⟩⟩
theorem L_Mwh (wt : WF τ) (hw : Wd σ κ τ μ z w) {i : Nat} {x1 : Int32} (hi : i < 120) {kx : PM Int32} {Q : Int32 → PS → Prop} {E : String → PS → Prop}
    (h1 : (∃ j, j < τ 9 i 2 ∧ τ 0 0 0 < onM τ i j ∧ ∀ j', j' < j → ofM τ i j' ≤ τ 0 0 0) → Q 1 w) (h2 : (∃ j, j < τ 9 i 2 ∧ onM τ i j ≤ τ 0 0 0 ∧ τ 0 0 0 < ofM τ i j) → Q 2 w) (hk : (∀ j, j < τ 9 i 2 → ofM τ i j ≤ τ 0 0 0) → Rx kx w Q E) :
    ∀ (n f j : Nat), j + n = τ 9 i 2 → n ≤ f → (∀ j', j' < j → ofM τ i j' ≤ τ 0 0 0) → Rx (p_X6_where_L36 x1 (nI i) kx (f + 1) (nI j)) w Q E := by
  have hway := wt.way i
  have hnow := wt.now
  intro n
  induction n with
  | zero =>
    intro f j a b c
    rw [p_X6_where_L36]
    refine Rx_rd (g_chk7 hw) ?_
    refine Rx_rd (h_many hw hi) ?_
    exact Rx_pos (by rw [nI_leI (by omega) (by omega)]; omega) (hk (fun j' hj' => c j' (by omega)))
  | succ n ih =>
    intro f j a b c
    obtain ⟨f', rfl⟩ : ∃ f', f = f' + 1 := ⟨f - 1, by omega⟩
    have hl := wt.leg i j (by omega)
    have htr := wt.tr
    have hst := wt.stops (τ 10 i (3 * j))
    have m1' := wt.min (τ 10 i (3 * j)) (τ 10 i (3 * j + 1))
    have m2' := wt.min (τ 10 i (3 * j)) (τ 10 i (3 * j + 2))
    rw [p_X6_where_L36]
    refine Rx_rd (g_chk7 hw) ?_
    refine Rx_rd (h_many hw hi) ?_
    refine Rx_neg (by rw [nI_leI (by omega) (by omega)]; omega) ?_
    refine Rx_rd (r_legAt hw) ?_
    refine Rx_rd (h_now hw) ?_
    refine Rx_rd (g_chk7 hw) ?_
    refine Rx_rd (g_chk7 hw) ?_
    refine Rx_rd (h_legT hw hi (by omega)) ?_
    refine Rx_rd (g_chk7 hw) ?_
    refine Rx_rd (h_legN hw hi (by omega)) ?_
    refine Rx_rd (r_node hw) ?_
    refine Rx_rd (h_min hw (by omega) (by omega)) ?_
    refine Rx_if (fun h => ?_) (fun h => ?_)
    · rw [nI_leI (by omega) (by omega)] at h
      refine Rx_rd (h_now hw) ?_
      refine Rx_rd (g_chk7 hw) ?_
      refine Rx_rd (g_chk7 hw) ?_
      refine Rx_rd (h_legT hw hi (by omega)) ?_
      refine Rx_rd (g_chk7 hw) ?_
      refine Rx_rd (h_legF hw hi (by omega)) ?_
      refine Rx_rd (r_node hw) ?_
      refine Rx_rd (h_min hw (by omega) (by omega)) ?_
      refine Rx_if (fun h5 => ?_) (fun h5 => ?_)
      · rw [nI_leI (by omega) (by omega)] at h5
        rw [nI_1]
        refine ih f' (j + 1) (by omega) (by omega) (fun j' hj' => ?_)
        by_cases q : j' = j
        · subst q; exact h5
        · exact c j' (by omega)
      · rw [nI_leI (by omega) (by omega)] at h5
        exact Rx_rt (h2 ⟨j, by omega, h, by unfold ofM; omega⟩)
    · rw [nI_leI (by omega) (by omega)] at h
      exact Rx_rt (h1 ⟨j, by omega, by unfold onM; omega, c⟩)
theorem op_where (hv : INV3 σ) (x : Int32) : Op (p_X5_where x) (p_X6_where x) cf1 sN σ := by
  have wf := hv.1.1
  have hbx := wf.bx
  have hnow := wf.now
  rcases isB_or (σ := σ) x with hx | ⟨b, hb, rfl⟩
  · unfold p_X5_where
    refine op_nobox hv hx (fun σc κ μ z w hm hw => ?_)
    unfold p_X6_where
    rw [nL_0]
    refine Rx_set (t_code hw) (fun w1 hw1 => ?_)
    refine Rx_assoc ?_
    refine Rx_rd (g_chk7 hw1) ?_
    refine Rx_rd (q_isB hw1 wf hx) ?_
    exact Rx_pos rfl (Rx_failp (hm.code 0) hw1)
  · have hb6 : b < 60 := by omega
    have hi := cur_ok wf hb
    have hi2 := cur_lt wf hb6
    have hway := wf.way (cur σ b)
    have hthb := wf.thb (cur σ b)
    have hfr := wf.fromb (cur σ b)
    have harr : arrS σ (cur σ b) < 2 ^ 31 := by unfold arrS; omega

    have key : ∃ v : Int32, Cls (p_X5_where (nI b)) σ σ (.inl v) ∧ Rfr (p_X6_where (nI b)) cf1 σ σ (.inl v) := by
      have cls : ∀ v : Int32, (∀ κ τ μ z w, Wd σ κ τ μ z w → σ 9 (cur σ b) 0 ≠ 0 ∧ readyS σ (cur σ b) ≤ σ 0 0 0 → Rx (pbnd (pgI 6 0 4) fun v24 => pbnd (pbnd (pchk 5 (cur σ b)) fun _ => p_X4_hasArrivedBy (cur σ b) v24) fun v27 => (if v27 = 0 then pbnd (pgI 6 0 4) fun v37 => pbnd (pbnd (pchk 5 (cur σ b)) fun _ => p_X4_isThereBy (cur σ b) v37) fun v40 => (if v40 = 0 then pbnd (pchk 6 0) fun _ => pbnd (pgI 6 0 4) fun v54 => pbnd (pbnd (pchk 3 0) fun _ => p_X2_isAboard (cur σ b) v54) fun v57 => (if v57 = 0 then p_X5_where_b68 (1 : Int32) else p_X5_where_b68 (2 : Int32)) else prt (3 : Int32)) else prt (4 : Int32))) w (fun u w' => u = v ∧ w' = w) NE) → (¬ (σ 9 (cur σ b) 0 ≠ 0 ∧ readyS σ (cur σ b) ≤ σ 0 0 0) → v = 0) → Cls (p_X5_where (nI b)) σ σ (.inl v) := by
        intro v h h0 κ τ μ z w hw
        unfold p_X5_where
        refine Rx_assoc ?_
        refine Rx_rd (g_chk6 hw) ?_
        refine Rx_rd (q_boxOf wf hw hb) ?_
        refine Rx_assoc ?_
        refine Rx_rd (g_chk1 hw hb) ?_
        refine Rx_rd (r_current hw hb) ?_
        refine Rx_rd (g_now hw) ?_
        refine Rx_assoc ?_
        refine Rx_rd (g_chk5 hw hi) ?_
        refine Rx_rd (r_goneBy hw wf hi (by omega)) ?_
        refine Rx_ifb (fun q => Rx_rt ⟨by rw [h0 q], κ, hw⟩) (fun q => ?_)
        exact Rx_tn (h κ τ μ z w hw q) (fun u w' ⟨e, e2⟩ => ⟨by rw [e], κ, by rw [e2]; exact hw⟩)
      have rfr : ∀ v : Int32, (∀ σc κ μ z w, Wd σc κ σ μ z w → σ 9 (cur σ b) 0 ≠ 0 ∧ readyS σ (cur σ b) ≤ σ 0 0 0 → Rx (p_X6_where_L36 (nI b) (nI (cur σ b)) (pbnd (pchk 7 0) fun _ => pbnd (pld 9 23 (nI (cur σ b))) fun v126 => (if v126 = 0 then p_X6_where_b143 else pbnd (pgI 7 0 1) fun v131 => pbnd (pbnd (pchk 7 0) fun _ => p_X6_there (nI (cur σ b)) (nI b)) fun v137 => (if v137 ≤ v131 then pbnd (pgI 7 0 1) fun v148 => pbnd (pbnd (pchk 7 0) fun _ => p_X6_arrives (nI b)) fun v153 => (if v153 ≤ v148 then p_X6_where_b164 (4 : Int32) else p_X6_where_b164 (3 : Int32)) else p_X6_where_b143))) FU (0 : Int32)) w (fun u w' => u = v ∧ w' = w) NE) → (¬ (σ 9 (cur σ b) 0 ≠ 0 ∧ readyS σ (cur σ b) ≤ σ 0 0 0) → v = 0) → Rfr (p_X6_where (nI b)) cf1 σ σ (.inl v) := by
        intro v h h0 σc κ μ z w hm hw
        unfold p_X6_where
        rw [nL_0]
        refine Rx_set (t_code hw) (fun w1 hw1 => ?_)
        refine Rx_assoc ?_
        refine Rx_rd (g_chk7 hw1) ?_
        refine Rx_rd (q_isBy hw1 wf hb) ?_
        refine Rx_neg (by decide) ?_
        refine Rx_assoc ?_
        refine Rx_rd (g_chk7 hw1) ?_
        refine Rx_rd (r_Mgone hw1 wf hb6) ?_
        refine Rx_ifb (fun q => Rx_rt ⟨_, hw1, hm.code 0, by rw [h0 q]; rfl, us_code⟩) (fun q => ?_)
        refine Rx_assoc ?_
        refine Rx_rd (g_chk7 hw1) ?_
        refine Rx_rd (r_Mway hw1 wf hb6) ?_
        exact Rx_tn (h σc κ _ z w1 hw1 q) (fun u w' ⟨e, e2⟩ => ⟨_, by rw [e2]; exact hw1, hm.code 0, e, us_code⟩)
      by_cases hg : σ 9 (cur σ b) 0 ≠ 0 ∧ readyS σ (cur σ b) ≤ σ 0 0 0
      · by_cases hA : ∃ j, j < σ 9 (cur σ b) 2 ∧ σ 0 0 0 < ofM σ (cur σ b) j
        ·
          obtain ⟨j0, a1, a2⟩ := hA
          have hth := of_there wf a1
          have nthere : ¬ (σ 9 (cur σ b) 5 ≠ 0 ∧ σ 9 (cur σ b) 5 ≤ σ 0 0 0 + 1) := fun q => by have := wf.there _ q.1; omega
          have narr : ¬ (σ 9 (cur σ b) 5 ≠ 0 ∧ arrS σ (cur σ b) ≤ σ 0 0 0) := fun q => by have := wf.there _ q.1; unfold arrS at q; omega
          have hcl : ∀ v : Int32, ((∀ j', j' < σ 9 (cur σ b) 2 → ¬ (onM σ (cur σ b) j' ≤ σ 0 0 0 ∧ σ 0 0 0 < ofM σ (cur σ b) j')) → v = 1) → ((∃ j', j' < σ 9 (cur σ b) 2 ∧ onM σ (cur σ b) j' ≤ σ 0 0 0 ∧ σ 0 0 0 < ofM σ (cur σ b) j') → v = 2) → Cls (p_X5_where (nI b)) σ σ (.inl v) := by
            intro v e1 e2
            refine cls v (fun κ τ μ z w hw q => ?_) (fun q => absurd hg q)
            refine Rx_rd (g_now hw) ?_
            refine Rx_assoc ?_
            refine Rx_rd (g_chk5 hw hi) ?_
            refine Rx_rd (r_arrivedBy hw wf hi (by omega)) ?_
            refine Rx_ifb (fun _ => ?_) (fun q => absurd q narr)
            refine Rx_rd (g_now hw) ?_
            refine Rx_assoc ?_
            refine Rx_rd (g_chk5 hw hi) ?_
            refine Rx_rd (r_thereBy hw wf hi (by omega)) ?_
            refine Rx_ifb (fun _ => ?_) (fun q => absurd q nthere)
            refine Rx_rd (g_chk6 hw) ?_
            refine Rx_rd (g_now hw) ?_
            refine Rx_assoc ?_
            refine Rx_rd (g_chk3 hw) ?_
            unfold p_X2_isAboard
            refine Rx_cn (L_abd (f := 4095) wf hw hi (by omega) (σ 9 (cur σ b) 2) 0 (by omega) (by omega) (fun j' hj' => absurd hj' (Nat.not_lt_zero _))) (fun u w' ⟨e, hor⟩ => ?_)
            subst e
            rcases hor with ⟨rfl, q⟩ | ⟨rfl, q⟩
            · exact Rx_pos rfl (Rx_rt ⟨(e1 q).symm, rfl⟩)
            · exact Rx_neg (by decide) (Rx_rt ⟨(e2 q).symm, rfl⟩)
          have hrf : ∀ v : Int32, ((∃ j, j < σ 9 (cur σ b) 2 ∧ σ 0 0 0 < onM σ (cur σ b) j ∧ ∀ j', j' < j → ofM σ (cur σ b) j' ≤ σ 0 0 0) → v = 1) → ((∃ j', j' < σ 9 (cur σ b) 2 ∧ onM σ (cur σ b) j' ≤ σ 0 0 0 ∧ σ 0 0 0 < ofM σ (cur σ b) j') → v = 2) → Rfr (p_X6_where (nI b)) cf1 σ σ (.inl v) := by
            intro v e1 e2
            refine rfr v (fun σc κ μ z w hw q => ?_) (fun q => absurd hg q)
            refine L_Mwh (f := 4095) wf hw hi2 (fun q => ⟨(e1 q).symm, rfl⟩) (fun q => ⟨(e2 q).symm, rfl⟩) (fun q => ?_) (σ 9 (cur σ b) 2) 0 (by omega) (by omega) (fun j' hj' => absurd hj' (Nat.not_lt_zero _))
            have := q j0 a1
            omega
          by_cases hB : ∃ j, j < σ 9 (cur σ b) 2 ∧ onM σ (cur σ b) j ≤ σ 0 0 0 ∧ σ 0 0 0 < ofM σ (cur σ b) j
          · refine ⟨2, hcl 2 (fun q => ?_) (fun _ => rfl), hrf 2 (fun q => ?_) (fun _ => rfl)⟩
            · obtain ⟨j, b1, b2, b3⟩ := hB
              exact absurd ⟨b2, b3⟩ (q j b1)
            · obtain ⟨j, b1, b2, b3⟩ := hB
              obtain ⟨j', c1, c2, c3⟩ := q
              exfalso
              rcases Nat.lt_trichotomy j j' with h | h | h
              · have := c3 j h; omega
              · subst h; omega
              · have := of_on wf h b1
                have := on_of wf c1
                omega
          · exact ⟨1, hcl 1 (fun _ => rfl) (fun q => absurd q hB), hrf 1 (fun _ => rfl) (fun q => absurd q hB)⟩
        ·
          have hall : ∀ j, j < σ 9 (cur σ b) 2 → ofM σ (cur σ b) j ≤ σ 0 0 0 := fun j hj => Nat.not_lt.mp (fun q => hA ⟨j, hj, q⟩)
          have hrf : ∀ v : Int32, (∀ σc κ μ z w, Wd σc κ σ μ z w → Rx (pbnd (pchk 7 0) fun _ => pbnd (pld 9 23 (nI (cur σ b))) fun v126 => (if v126 = 0 then p_X6_where_b143 else pbnd (pgI 7 0 1) fun v131 => pbnd (pbnd (pchk 7 0) fun _ => p_X6_there (nI (cur σ b)) (nI b)) fun v137 => (if v137 ≤ v131 then pbnd (pgI 7 0 1) fun v148 => pbnd (pbnd (pchk 7 0) fun _ => p_X6_arrives (nI b)) fun v153 => (if v153 ≤ v148 then p_X6_where_b164 (4 : Int32) else p_X6_where_b164 (3 : Int32)) else p_X6_where_b143))) w (fun u w' => u = v ∧ w' = w) NE) → Rfr (p_X6_where (nI b)) cf1 σ σ (.inl v) := by
            intro v h
            refine rfr v (fun σc κ μ z w hw q => ?_) (fun q => absurd hg q)
            refine L_Mwh (f := 4095) wf hw hi2 (fun ⟨j, c1, c2, _⟩ => ?_) (fun ⟨j, c1, c2, c3⟩ => ?_) (fun _ => h σc κ μ z w hw) (σ 9 (cur σ b) 2) 0 (by omega) (by omega) (fun j' hj' => absurd hj' (Nat.not_lt_zero _))
            · have := hall j c1
              have := on_of wf c1
              omega
            · have := hall j c1
              omega
          have nab : ∀ κ τ μ z w, Wd σ κ τ μ z w → Rx (p_X2_isAboard (cur σ b) (nI (σ 0 0 0))) w (fun v w' => v = 0 ∧ w' = w) NE := by
            intro κ τ μ z w hw
            unfold p_X2_isAboard
            refine Rx_tn (L_abd (f := 4095) wf hw hi (by omega) (σ 9 (cur σ b) 2) 0 (by omega) (by omega) (fun j' hj' => absurd hj' (Nat.not_lt_zero _))) (fun v w' ⟨e, hor⟩ => ?_)
            rcases hor with ⟨rfl, _⟩ | ⟨_, j, c1, c2, c3⟩
            · exact ⟨rfl, e⟩
            · have := hall j c1
              omega
          by_cases h5 : σ 9 (cur σ b) 5 = 0
          · refine ⟨1, cls 1 (fun κ τ μ z w hw q => ?_) (fun q => absurd hg q), hrf 1 (fun σc κ μ z w hw => ?_)⟩
            · refine Rx_rd (g_now hw) ?_
              refine Rx_assoc ?_
              refine Rx_rd (g_chk5 hw hi) ?_
              refine Rx_rd (r_arrivedBy hw wf hi (by omega)) ?_
              refine Rx_ifb (fun _ => ?_) (fun q => absurd h5 q.1)
              refine Rx_rd (g_now hw) ?_
              refine Rx_assoc ?_
              refine Rx_rd (g_chk5 hw hi) ?_
              refine Rx_rd (r_thereBy hw wf hi (by omega)) ?_
              refine Rx_ifb (fun _ => ?_) (fun q => absurd h5 q.1)
              refine Rx_rd (g_chk6 hw) ?_
              refine Rx_rd (g_now hw) ?_
              refine Rx_assoc ?_
              refine Rx_rd (g_chk3 hw) ?_
              refine Rx_cn (nab κ τ μ z w hw) (fun u w' ⟨e, e2⟩ => ?_)
              subst e2
              exact Rx_pos e (Rx_rt ⟨rfl, rfl⟩)
            · refine Rx_rd (g_chk7 hw) ?_
              refine Rx_rd (h_has hw hi2) ?_
              rw [h5]
              exact Rx_pos rfl (Rx_rt ⟨rfl, rfl⟩)
          · have eth := there_eq wf h5
            have hhas : ∀ σc κ μ z w, Wd σc κ σ μ z w → ∀ (Q : Int32 → PS → Prop) (E : String → PS → Prop) (f : Int32 → PM Int32), Rx (f 1) w Q E → Rx (pbnd (pchk 7 0) fun _ => pbnd (pld 9 23 (nI (cur σ b))) f) w Q E := by
              intro σc κ μ z w hw Q E f h
              refine Rx_rd (g_chk7 hw) ?_
              refine Rx_rd (h_has hw hi2) ?_
              rw [if_neg h5]
              exact h
            by_cases ht : thereS σ (cur σ b) ≤ σ 0 0 0
            · by_cases ha : arrS σ (cur σ b) ≤ σ 0 0 0
              · refine ⟨4, cls 4 (fun κ τ μ z w hw q => ?_) (fun q => absurd hg q), hrf 4 (fun σc κ μ z w hw => hhas σc κ μ z w hw _ _ _ ?_)⟩
                · refine Rx_rd (g_now hw) ?_
                  refine Rx_assoc ?_
                  refine Rx_rd (g_chk5 hw hi) ?_
                  refine Rx_rd (r_arrivedBy hw wf hi (by omega)) ?_
                  exact Rx_ifb (fun q => absurd ⟨h5, ha⟩ q) (fun _ => Rx_rt ⟨rfl, rfl⟩)
                · refine Rx_neg (by decide) ?_
                  refine Rx_rd (h_now hw) ?_
                  refine Rx_assoc ?_
                  refine Rx_rd (g_chk7 hw) ?_
                  refine Rx_rd (r_Mthere hw wf hb6) ?_
                  refine Rx_pos (by rw [nI_leI (by omega) (by omega)]; exact ht) ?_
                  refine Rx_rd (h_now hw) ?_
                  refine Rx_assoc ?_
                  refine Rx_rd (g_chk7 hw) ?_
                  refine Rx_rd (q_Marr hw wf hb6) ?_
                  exact Rx_pos (by rw [if_neg h5, nI_leI (by omega) (by omega)]; exact ha) (Rx_rt ⟨rfl, rfl⟩)
              · refine ⟨3, cls 3 (fun κ τ μ z w hw q => ?_) (fun q => absurd hg q), hrf 3 (fun σc κ μ z w hw => hhas σc κ μ z w hw _ _ _ ?_)⟩
                · refine Rx_rd (g_now hw) ?_
                  refine Rx_assoc ?_
                  refine Rx_rd (g_chk5 hw hi) ?_
                  refine Rx_rd (r_arrivedBy hw wf hi (by omega)) ?_
                  refine Rx_ifb (fun _ => ?_) (fun q => absurd q.2 ha)
                  refine Rx_rd (g_now hw) ?_
                  refine Rx_assoc ?_
                  refine Rx_rd (g_chk5 hw hi) ?_
                  refine Rx_rd (r_thereBy hw wf hi (by omega)) ?_
                  exact Rx_ifb (fun q => absurd ⟨h5, by omega⟩ q) (fun _ => Rx_rt ⟨rfl, rfl⟩)
                · refine Rx_neg (by decide) ?_
                  refine Rx_rd (h_now hw) ?_
                  refine Rx_assoc ?_
                  refine Rx_rd (g_chk7 hw) ?_
                  refine Rx_rd (r_Mthere hw wf hb6) ?_
                  refine Rx_pos (by rw [nI_leI (by omega) (by omega)]; exact ht) ?_
                  refine Rx_rd (h_now hw) ?_
                  refine Rx_assoc ?_
                  refine Rx_rd (g_chk7 hw) ?_
                  refine Rx_rd (q_Marr hw wf hb6) ?_
                  exact Rx_neg (by rw [if_neg h5, nI_leI (by omega) (by omega)]; exact ha) (Rx_rt ⟨rfl, rfl⟩)
            · refine ⟨1, cls 1 (fun κ τ μ z w hw q => ?_) (fun q => absurd hg q), hrf 1 (fun σc κ μ z w hw => hhas σc κ μ z w hw _ _ _ ?_)⟩
              · refine Rx_rd (g_now hw) ?_
                refine Rx_assoc ?_
                refine Rx_rd (g_chk5 hw hi) ?_
                refine Rx_rd (r_arrivedBy hw wf hi (by omega)) ?_
                refine Rx_ifb (fun _ => ?_) (fun q => by unfold arrS at q; omega)
                refine Rx_rd (g_now hw) ?_
                refine Rx_assoc ?_
                refine Rx_rd (g_chk5 hw hi) ?_
                refine Rx_rd (r_thereBy hw wf hi (by omega)) ?_
                refine Rx_ifb (fun _ => ?_) (fun q => by omega)
                refine Rx_rd (g_chk6 hw) ?_
                refine Rx_rd (g_now hw) ?_
                refine Rx_assoc ?_
                refine Rx_rd (g_chk3 hw) ?_
                refine Rx_cn (nab κ τ μ z w hw) (fun u w' ⟨e, e2⟩ => ?_)
                subst e2
                exact Rx_pos e (Rx_rt ⟨rfl, rfl⟩)
              · refine Rx_neg (by decide) ?_
                refine Rx_rd (h_now hw) ?_
                refine Rx_assoc ?_
                refine Rx_rd (g_chk7 hw) ?_
                refine Rx_rd (r_Mthere hw wf hb6) ?_
                exact Rx_neg (by rw [nI_leI (by omega) (by omega)]; exact ht) (Rx_rt ⟨rfl, rfl⟩)
      · exact ⟨0, cls 0 (fun κ τ μ z w hw q => absurd q hg) (fun _ => rfl), rfr 0 (fun σc κ μ z w hw q => absurd q hg) (fun _ => rfl)⟩
    obtain ⟨v, a, b⟩ := key
    exact ⟨.inl v, trivial, σ, hv, a, b⟩
end OPS4
