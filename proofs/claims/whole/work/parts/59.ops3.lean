section OPS3
variable {σ κ τ μ : SG} {z : BB} {w : PS}
/-! minutes -/
theorem INV3_now (hv : INV3 σ) {v : Nat} (hb : v ≤ 1439) : INV3 (us σ 0 0 0 v) := by
  have wf := hv.1.1
  have k : ∀ x y q, x ≠ 0 → us σ 0 0 0 v x y q = σ x y q := fun x y q h0 => us_ne h0
  have k0 : ∀ y, y ≠ 0 → us σ 0 0 0 v 0 y 0 = σ 0 y 0 := fun y hy => by rw [us_at, if_neg (fun e => hy e.2.1)]
  have ks : ∀ t j, srt (us σ 0 0 0 v) t j = srt σ t j := fun t j => by
    unfold srt
    rw [k 6 _ _ (by decide), k 5 _ _ (by decide), k 1 _ _ (by decide)]
  have hold : ∀ t j, j < σ 3 t 0 → us σ 0 0 0 v 5 t j = σ 5 t j ∧ us σ 0 0 0 v 6 t j = σ 6 t j ∧ srt (us σ 0 0 0 v) t j = srt σ t j := fun t j hj => ⟨k 5 _ _ (by decide), k 6 _ _ (by decide), ks t j⟩
  refine ⟨⟨WF_net wf (fun y q => k 7 y q (by decide)) (fun y q => k 8 y q (by decide)) (fun y q => k 9 y q (by decide)) (fun y q => k 10 y q (by decide)) (by rw [us_self]; exact hb) (by rw [k0 1 (by decide)]; exact wf.st) (by rw [k0 2 (by decide)]; exact ⟨Nat.le_refl _, wf.tr⟩) (k0 3 (by decide)) (by rw [k0 4 (by decide)]; exact wf.ca) (fun i => by rw [k 1 _ _ (by decide)]; exact wf.sort i) (fun t => by rw [k 2 _ _ (by decide)]; exact wf.room t) (fun t => by rw [k 3 _ _ (by decide)]; exact ⟨Nat.le_refl _, wf.stops t⟩) (fun t => by rw [k 4 _ _ (by decide)]; exact wf.canc t) (fun t j => by rw [k 5 _ _ (by decide)]; exact wf.sta t j) (fun t j => by rw [k 6 _ _ (by decide)]; exact wf.min t j) (fun t a b => by rw [k 3 _ _ (by decide), k 6 _ _ (by decide), k 6 _ _ (by decide)]; exact wf.inc t a b) hold (fun y hy => ?_) (fun i => by rw [k 11 _ _ (by decide)]; exact wf.days i) (fun t ht => ?_), SN_net wf hv.1.2 (fun y q => k 8 y q (by decide)) (fun y q => k 9 y q (by decide)) (fun y q => k 10 y q (by decide)) (k0 3 (by decide)) hold⟩, ?_⟩
  · have e8 : ∀ b q, us σ 0 0 0 v 8 b q = σ 8 b q := fun b q => k 8 b q (by decide)
    have e1 : ∀ b q, us σ 0 0 0 v 1 b q = σ 1 b q := fun b q => k 1 b q (by decide)
    unfold begS readyS wfromS fromS
    simp only [e8, e1]
  · rw [k0 2 (by decide)] at ht
    have f := wf.freshT t ht
    rw [k 3 _ _ (by decide), k 4 _ _ (by decide), k 2 _ _ (by decide)]
    refine ⟨f.1, f.2.1, f.2.2.1, fun j => ?_⟩
    rw [k 5 _ _ (by decide), k 6 _ _ (by decide), k 7 _ _ (by decide)]
    exact f.2.2.2 j
  · refine ⟨fun t j hj => ?_, fun b hb => ?_⟩
    · rw [k 3 _ _ (by decide)] at hj
      rw [k 5 _ _ (by decide), k0 1 (by decide)]
      exact hv.2.1 t j hj
    · rw [k0 3 (by decide)] at hb
      rw [k 8 _ _ (by decide), k 8 _ _ (by decide), k0 1 (by decide)]
      exact hv.2.2 b hb
theorem op_minutes (hv : INV3 σ) (x : Int32) : Op (p_X5_minutes x) (p_X6_minutes x) cf1 sI σ := by
  have wf := hv.1.1
  have hn := wf.now
  rcases i_or x with hx | ⟨v, hv2, rfl⟩
  · refine ⟨.inr eI, rfl, σ, hv, fun κ τ μ z w hw => ?_, fun σc κ μ z w hm hw => ?_⟩
    · unfold p_X5_minutes p_X5_minutes_b16
      exact Rx_pos hx (Rx_thr ⟨rfl, κ, hw.thr⟩)
    · unfold p_X6_minutes p_X6_minutes_b21
      rw [nL_0]
      refine Rx_set (t_code hw) (fun w1 hw1 => ?_)
      exact Rx_pos hx (Rx_failp (hm.code 0) hw1)
  · by_cases hc : v ≤ 1439 - σ 0 0 0
    · refine ⟨.inl (nI (σ 0 0 0 + v)), trivial, _, INV3_now hv (show σ 0 0 0 + v ≤ 1439 by omega), fun κ τ μ z w hw => ?_, fun σc κ μ z w hm hw => ?_⟩
      · unfold p_X5_minutes
        refine Rx_neg (nI_pos hv2) ?_
        refine Rx_rd (g_now hw) ?_
        rw [nL_1439, nI_sub hn]
        refine Rx_pos (by rw [nI_leI (by omega) (by omega)]; exact hc) ?_
        refine Rx_rd (g_now hw) ?_
        rw [nI_add]
        refine Rx_set (s_now hw) (fun w1 hw1 => ?_)
        refine Rx_rd (g_now hw1) ?_
        rw [us_self]
        exact Rx_rt ⟨rfl, κ, hw1⟩
      · unfold p_X6_minutes
        rw [nL_0]
        refine Rx_set (t_code hw) (fun w1 hw1 => ?_)
        refine Rx_neg (nI_pos hv2) ?_
        refine Rx_rd (h_now hw1) ?_
        rw [nL_1439, nI_sub hn]
        refine Rx_pos (by rw [nI_leI (by omega) (by omega)]; exact hc) ?_
        refine Rx_rd (h_now hw1) ?_
        rw [nI_add]
        refine Rx_set (t_now hw1) (fun w2 hw2 => ?_)
        refine Rx_rd (h_now hw2) ?_
        rw [us_self]
        exact Rx_rt ⟨_, hw2, hm.code 0, rfl, us_code⟩
    · refine ⟨.inr eI, rfl, σ, hv, fun κ τ μ z w hw => ?_, fun σc κ μ z w hm hw => ?_⟩
      · unfold p_X5_minutes p_X5_minutes_b16
        refine Rx_neg (nI_pos hv2) ?_
        refine Rx_rd (g_now hw) ?_
        rw [nL_1439, nI_sub hn]
        refine Rx_neg (by rw [nI_leI (by omega) (by omega)]; exact hc) ?_
        exact Rx_thr ⟨rfl, κ, hw.thr⟩
      · unfold p_X6_minutes p_X6_minutes_b21
        rw [nL_0]
        refine Rx_set (t_code hw) (fun w1 hw1 => ?_)
        refine Rx_neg (nI_pos hv2) ?_
        refine Rx_rd (h_now hw1) ?_
        rw [nL_1439, nI_sub hn]
        refine Rx_neg (by rw [nI_leI (by omega) (by omega)]; exact hc) ?_
        exact Rx_failp (hm.code 0) hw1
/-! load -/
theorem m1_lts {a b : Nat} (ha : a < 2 ^ 31) (hb : b < 2 ^ 31) : nI a < m1 b ↔ a + 1 < b := by
  by_cases h : b = 0
  · subst h
    rw [m1_0, i_lt, nI_toInt ha]
    have : (-1 : Int32).toInt = -1 := rfl
    omega
  · rw [m1_pos (by omega), nI_ltI ha (by omega)]; omega
theorem m1_lel {a b : Nat} (ha : a < 2 ^ 31) (hb : b < 2 ^ 31) : m1 a ≤ nI b ↔ a ≤ b + 1 := by
  by_cases h : a = 0
  · subst h
    exact ⟨fun _ => Nat.zero_le _, fun _ => by rw [m1_0]; exact m1m_le b hb⟩
  · rw [m1_pos (by omega), nI_leI (by omega) hb]; omega
theorem nI_m1 (k : Nat) : nI k - 1 = m1 k := by rw [Int32.sub_eq_add_neg]; exact nI_dn2 _
theorem op_load (hv : INV3 σ) (x y : Int32) : Op (p_X5_load x y) (p_X6_load x y) cf1 sN σ := by
  have wf := hv.1.1
  have htr := wf.tr
  rcases isT_or (σ := σ) x with hx | ⟨t, ht, rfl⟩
  · refine ⟨.inr eN, rfl, σ, hv, fun κ τ μ z w hw => ?_, fun σc κ μ z w hm hw => ?_⟩
    · unfold p_X5_load
      refine Rx_assoc ?_
      refine Rx_rd (g_chk6 hw) ?_
      exact Rx_thrown (q_trainOfN wf hw hx) ⟨rfl, κ, hw.thr⟩
    · unfold p_X6_load p_X6_load_b42 p_X6_load_b46
      rw [nL_0]
      refine Rx_set (t_code hw) (fun w1 hw1 => ?_)
      refine Rx_assoc ?_
      refine Rx_rd (g_chk7 hw1) ?_
      refine Rx_rd (q_isT hw1 wf hx) ?_
      exact Rx_pos rfl (Rx_failp (hm.code 0) hw1)
  · have hst := wf.stops t
    rcases i_or y with hy | ⟨k, hk, rfl⟩
    · refine ⟨.inr eN, rfl, σ, hv, fun κ τ μ z w hw => ?_, fun σc κ μ z w hm hw => ?_⟩
      · unfold p_X5_load p_X5_load_b20
        refine Rx_assoc ?_
        refine Rx_rd (g_chk6 hw) ?_
        refine Rx_rd (q_trainOf wf hw ht) ?_
        exact Rx_pos hy (Rx_thr ⟨rfl, κ, hw.thr⟩)
      · unfold p_X6_load p_X6_load_b42 p_X6_load_b46
        rw [nL_0]
        refine Rx_set (t_code hw) (fun w1 hw1 => ?_)
        refine Rx_assoc ?_
        refine Rx_rd (g_chk7 hw1) ?_
        refine Rx_rd (q_isTy hw1 wf ht) ?_
        exact Rx_neg (by decide) (Rx_pos hy (Rx_failp (hm.code 0) hw1))
    · by_cases hc : k + 1 < σ 3 t 0
      · refine ⟨.inl (dL (σ 7 t k)), trivial, σ, hv, fun κ τ μ z w hw => ?_, fun σc κ μ z w hm hw => ?_⟩
        · unfold p_X5_load
          refine Rx_assoc ?_
          refine Rx_rd (g_chk6 hw) ?_
          refine Rx_rd (q_trainOf wf hw ht) ?_
          refine Rx_neg (nI_pos hk) ?_
          refine Rx_rd (g_stops hw ht) ?_
          rw [nI_m1]
          refine Rx_pos ((m1_lts hk (by omega)).mpr hc) ?_
          refine Rx_rd (g_chk4 hw ht) ?_
          refine Rx_rd (g_load hw ht (by omega)) ?_
          exact Rx_rt ⟨rfl, κ, hw⟩
        · unfold p_X6_load p_X6_load_b46
          rw [nL_0]
          refine Rx_set (t_code hw) (fun w1 hw1 => ?_)
          refine Rx_assoc ?_
          refine Rx_rd (g_chk7 hw1) ?_
          refine Rx_rd (q_isTy hw1 wf ht) ?_
          refine Rx_neg (by decide) ?_
          refine Rx_neg (nI_pos hk) ?_
          refine Rx_rd (g_chk7 hw1) ?_
          refine Rx_rd (h_stops hw1 (by omega)) ?_
          rw [nI_m1]
          refine Rx_neg (by rw [m1_lel (by omega) hk]; omega) ?_
          refine Rx_rd (g_chk7 hw1) ?_
          refine Rx_rd (r_node hw1) ?_
          refine Rx_rd (h_load hw1 (by omega) (by omega)) ?_
          exact Rx_rt ⟨_, hw1, hm.code 0, rfl, us_code⟩
      · refine ⟨.inr eN, rfl, σ, hv, fun κ τ μ z w hw => ?_, fun σc κ μ z w hm hw => ?_⟩
        · unfold p_X5_load p_X5_load_b20
          refine Rx_assoc ?_
          refine Rx_rd (g_chk6 hw) ?_
          refine Rx_rd (q_trainOf wf hw ht) ?_
          refine Rx_neg (nI_pos hk) ?_
          refine Rx_rd (g_stops hw ht) ?_
          rw [nI_m1]
          refine Rx_neg (fun q => hc ((m1_lts hk (by omega)).mp q)) ?_
          exact Rx_thr ⟨rfl, κ, hw.thr⟩
        · unfold p_X6_load p_X6_load_b42 p_X6_load_b46
          rw [nL_0]
          refine Rx_set (t_code hw) (fun w1 hw1 => ?_)
          refine Rx_assoc ?_
          refine Rx_rd (g_chk7 hw1) ?_
          refine Rx_rd (q_isTy hw1 wf ht) ?_
          refine Rx_neg (by decide) ?_
          refine Rx_neg (nI_pos hk) ?_
          refine Rx_rd (g_chk7 hw1) ?_
          refine Rx_rd (h_stops hw1 (by omega)) ?_
          rw [nI_m1]
          exact Rx_pos (by rw [m1_lel (by omega) hk]; omega) (Rx_failp (hm.code 0) hw1)
/-! stop -/
def stpS (σ : SG) (t s m : Nat) : SG := us (us (us σ 5 t (σ 3 t 0) s) 6 t (σ 3 t 0) m) 3 t 0 (σ 3 t 0 + 1)
theorem INV3_stp (hv : INV3 σ) {t s m : Nat} (ht : t < σ 0 2 0) (hs : s < σ 0 1 0) (hm : m ≤ 1439) (hn : σ 3 t 0 < 10) (hf : σ 3 t 0 = 0 ∨ (σ 6 t (σ 3 t 0 - 1) < m ∧ σ 5 t (σ 3 t 0 - 1) ≠ s)) : INV3 (stpS σ t s m) := by
  have wf := hv.1.1
  have hst := wf.st
  have k : ∀ x y q, x ≠ 3 → x ≠ 5 → x ≠ 6 → stpS σ t s m x y q = σ x y q := fun x y q h3 h5 h6 => by unfold stpS; rw [us_ne h3, us_ne h6, us_ne h5]
  have k3 : ∀ y, stpS σ t s m 3 y 0 = if y = t then σ 3 t 0 + 1 else σ 3 y 0 := fun y => by
    unfold stpS
    rw [us_at]
    by_cases q : y = t
    · rw [if_pos ⟨rfl, q, rfl⟩, if_pos q]
    · rw [if_neg (fun e => q e.2.1), if_neg q, us_ne (by decide), us_ne (by decide)]
  have k5 : ∀ y j, stpS σ t s m 5 y j = if y = t ∧ j = σ 3 t 0 then s else σ 5 y j := fun y j => by
    unfold stpS
    rw [us_ne (by decide), us_ne (by decide), us_at]
    by_cases q : y = t ∧ j = σ 3 t 0
    · rw [if_pos ⟨rfl, q⟩, if_pos q]
    · rw [if_neg (fun e => q e.2), if_neg q]
  have k6 : ∀ y j, stpS σ t s m 6 y j = if y = t ∧ j = σ 3 t 0 then m else σ 6 y j := fun y j => by
    unfold stpS
    rw [us_ne (by decide), us_at]
    by_cases q : y = t ∧ j = σ 3 t 0
    · rw [if_pos ⟨rfl, q⟩, if_pos q]
    · rw [if_neg (fun e => q e.2), if_neg q, us_ne (by decide)]
  have hold : ∀ y j, j < σ 3 y 0 → stpS σ t s m 5 y j = σ 5 y j ∧ stpS σ t s m 6 y j = σ 6 y j ∧ srt (stpS σ t s m) y j = srt σ y j := fun y j hj => by
    have ne : ¬ (y = t ∧ j = σ 3 t 0) := by rintro ⟨rfl, e⟩; omega
    have e5 : stpS σ t s m 5 y j = σ 5 y j := by rw [k5, if_neg ne]
    have e6 : stpS σ t s m 6 y j = σ 6 y j := by rw [k6, if_neg ne]
    refine ⟨e5, e6, ?_⟩
    unfold srt
    rw [e5, e6, k 1 _ _ (by decide) (by decide) (by decide)]
  have inc2 : ∀ y a b, a < b → b < stpS σ t s m 3 y 0 → stpS σ t s m 6 y a < stpS σ t s m 6 y b := by
    intro y a b hab hb
    rw [k3] at hb
    rw [k6, k6]
    by_cases q : y = t
    · subst q
      rw [if_pos rfl] at hb
      rw [if_neg (fun e => by omega)]
      by_cases q2 : b = σ 3 y 0
      · rw [if_pos ⟨rfl, q2⟩]
        have h1 : σ 6 y (σ 3 y 0 - 1) < m := by omega
        by_cases q3 : a = σ 3 y 0 - 1
        · rw [q3]; exact h1
        · have := wf.inc y a (σ 3 y 0 - 1) (by omega) (by omega)
          omega
      · rw [if_neg (fun e => q2 e.2)]
        exact wf.inc y a b hab (by omega)
    · rw [if_neg q] at hb
      rw [if_neg (fun e => q e.1), if_neg (fun e => q e.1)]
      exact wf.inc y a b hab hb
  refine ⟨⟨WF_net wf (fun y q => k 7 y q (by decide) (by decide) (by decide)) (fun y q => k 8 y q (by decide) (by decide) (by decide)) (fun y q => k 9 y q (by decide) (by decide) (by decide)) (fun y q => k 10 y q (by decide) (by decide) (by decide)) (by rw [k 0 _ _ (by decide) (by decide) (by decide)]; exact wf.now) (by rw [k 0 _ _ (by decide) (by decide) (by decide)]; exact wf.st) (by rw [k 0 _ _ (by decide) (by decide) (by decide)]; exact ⟨Nat.le_refl _, wf.tr⟩) (k 0 _ _ (by decide) (by decide) (by decide)) (by rw [k 0 _ _ (by decide) (by decide) (by decide)]; exact wf.ca) (fun i => by rw [k 1 _ _ (by decide) (by decide) (by decide)]; exact wf.sort i) (fun y => by rw [k 2 _ _ (by decide) (by decide) (by decide)]; exact wf.room y) (fun y => by rw [k3]; have := wf.stops y; split <;> rename_i q <;> (try subst q) <;> omega) (fun y => by rw [k 4 _ _ (by decide) (by decide) (by decide)]; exact wf.canc y) (fun y j => by rw [k5]; have := wf.sta y j; split <;> omega) (fun y j => by rw [k6]; have := wf.min y j; split <;> omega) inc2 hold (fun y hy => ?_) (fun i => by rw [k 11 _ _ (by decide) (by decide) (by decide)]; exact wf.days i) (fun y hy => ?_), SN_net wf hv.1.2 (fun y q => k 8 y q (by decide) (by decide) (by decide)) (fun y q => k 9 y q (by decide) (by decide) (by decide)) (fun y q => k 10 y q (by decide) (by decide) (by decide)) (k 0 _ _ (by decide) (by decide) (by decide)) hold⟩, ?_⟩
  · have e8 : ∀ b q, stpS σ t s m 8 b q = σ 8 b q := fun b q => k 8 b q (by decide) (by decide) (by decide)
    have e1 : ∀ b q, stpS σ t s m 1 b q = σ 1 b q := fun b q => k 1 b q (by decide) (by decide) (by decide)
    unfold begS readyS wfromS fromS
    simp only [e8, e1]
  · rw [k 0 _ _ (by decide) (by decide) (by decide)] at hy
    have f := wf.freshT y hy
    have hne : y ≠ t := by omega
    rw [k3, if_neg hne, k 4 _ _ (by decide) (by decide) (by decide), k 2 _ _ (by decide) (by decide) (by decide)]
    refine ⟨f.1, f.2.1, f.2.2.1, fun j => ?_⟩
    rw [k5, k6, if_neg (fun e => hne e.1), if_neg (fun e => hne e.1), k 7 _ _ (by decide) (by decide) (by decide)]
    exact f.2.2.2 j
  · refine ⟨fun y j hj => ?_, fun b hb => ?_⟩
    · rw [k3] at hj
      rw [k5, k 0 _ _ (by decide) (by decide) (by decide)]
      by_cases q : y = t ∧ j = σ 3 t 0
      · rw [if_pos q]; exact hs
      · rw [if_neg q]
        refine hv.2.1 y j ?_
        split at hj
        · rename_i e; subst e; omega
        · exact hj
    · rw [k 0 _ _ (by decide) (by decide) (by decide)] at hb ⊢
      rw [k 8 _ _ (by decide) (by decide) (by decide), k 8 _ _ (by decide) (by decide) (by decide)]
      exact hv.2.2 b hb
theorem L_used (hw : Wd σ κ τ μ z w) {t : Nat} (ht : t < σ 0 2 0) : ∀ (n f k : Nat), k + n = 10 → n ≤ f → (∀ j, j < k → dL (σ 7 t j) ≤ 0) → Rx (p_X3_isUsed_L2 t (prtZ (0 : Int32)) (f + 1) (nI k)) w (fun v w' => w' = w ∧ ((v = 0 ∧ ∀ j, j < 10 → dL (σ 7 t j) ≤ 0) ∨ (v = 1 ∧ ∃ j, j < 10 ∧ ¬ dL (σ 7 t j) ≤ 0))) NE := by
  intro n
  induction n with
  | zero =>
    intro f k h1 h2 h3
    rw [p_X3_isUsed_L2]
    refine Rx_pos (by rw [nL_10, nI_leI (by omega) (by omega)]; omega) ?_
    exact Rx_rtZ0 ⟨rfl, Or.inl ⟨rfl, fun j hj => h3 j (by omega)⟩⟩
  | succ n ih =>
    intro f k h1 h2 h3
    obtain ⟨f', rfl⟩ : ∃ f', f = f' + 1 := ⟨f - 1, by omega⟩
    rw [p_X3_isUsed_L2]
    refine Rx_neg (by rw [nL_10, nI_leI (by omega) (by omega)]; omega) ?_
    refine Rx_rd (g_chk4 hw ht) ?_
    refine Rx_rd (g_load hw ht (by omega)) ?_
    refine Rx_if (fun h => ?_) (fun h => ?_)
    · rw [nI_1]
      refine ih f' (k + 1) (by omega) (by omega) (fun j hj => ?_)
      by_cases q : j = k
      · subst q; exact h
      · exact h3 j (by omega)
    · exact Rx_rtZ1 ⟨rfl, Or.inr ⟨rfl, k, by omega, h⟩⟩
theorem L_Mused (wt : WF τ) (hw : Wd σ κ τ μ z w) {t nn : Nat} {x2 x3 : Int32} (ht : t < τ 0 2 0) (hnn : nn ≤ 10) {kx : Int32 → PM Int32} {Q : Int32 → PS → Prop} {E : String → PS → Prop} (hk : ∀ v : Int32, ((v = 0 ∧ ∀ j, j < nn → dL (τ 7 t j) ≤ 0) ∨ (v = 1 ∧ ∃ j, j < nn ∧ ¬ dL (τ 7 t j) ≤ 0)) → Rx (kx v) w Q E) :
    ∀ (n f k : Nat) (v : Int32), k + n = nn → n ≤ f → ((v = 0 ∧ ∀ j, j < k → dL (τ 7 t j) ≤ 0) ∨ (v = 1 ∧ ∃ j, j < k ∧ ¬ dL (τ 7 t j) ≤ 0)) → Rx (p_X6_stop_L32 (nI t) x2 x3 (nI nn) kx (f + 1) v (nI k)) w Q E := by
  have htr := wt.tr
  intro n
  induction n with
  | zero =>
    intro f k v h1 h2 h3
    rw [p_X6_stop_L32]
    refine Rx_pos (by rw [nI_leI (by omega) (by omega)]; omega) ?_
    have : k = nn := by omega
    subst this
    exact hk v h3
  | succ n ih =>
    intro f k v h1 h2 h3
    obtain ⟨f', rfl⟩ : ∃ f', f = f' + 1 := ⟨f - 1, by omega⟩
    rw [p_X6_stop_L32]
    unfold p_X6_stop_b56
    refine Rx_neg (by rw [nI_leI (by omega) (by omega)]; omega) ?_
    refine Rx_rd (g_chk7 hw) ?_
    refine Rx_rd (r_node hw) ?_
    refine Rx_rd (h_load hw (by omega) (by omega)) ?_
    refine Rx_if (fun h => ?_) (fun h => ?_)
    · rw [nI_1]
      refine ih f' (k + 1) v (by omega) (by omega) ?_
      rcases h3 with ⟨a, b⟩ | ⟨a, j, b, c⟩
      · refine Or.inl ⟨a, fun j hj => ?_⟩
        by_cases q : j = k
        · subst q; exact h
        · exact b j (by omega)
      · exact Or.inr ⟨a, j, by omega, c⟩
    · rw [nI_1]
      exact ih f' (k + 1) 1 (by omega) (by omega) (Or.inr ⟨rfl, k, by omega, h⟩)
theorem op_stop (hv : INV3 σ) (x y q : Int32) : Op (p_X5_stop x y q) (p_X6_stop x y q) cf1 sN σ := by
  have wf := hv.1.1
  have htr := wf.tr
  have hsb := wf.st
  rcases isT_or (σ := σ) x with hx | ⟨t, ht, rfl⟩
  · refine ⟨.inr eN, rfl, σ, hv, fun κ τ μ z w hw => ?_, fun σc κ μ z w hm hw => ?_⟩
    · unfold p_X5_stop
      refine Rx_assoc ?_
      refine Rx_rd (g_chk6 hw) ?_
      exact Rx_thrown (q_trainOfN wf hw hx) ⟨rfl, κ, hw.thr⟩
    · unfold p_X6_stop
      rw [nL_0]
      refine Rx_set (t_code hw) (fun w1 hw1 => ?_)
      refine Rx_assoc ?_
      refine Rx_rd (g_chk7 hw1) ?_
      refine Rx_rd (q_isT hw1 wf hx) ?_
      exact Rx_pos rfl (Rx_failp (hm.code 0) hw1)
  · have hst := wf.stops t
    have hmn := wf.min t (σ 3 t 0 - 1)
    have hsn := wf.sta t (σ 3 t 0 - 1)
    by_cases hgood : ∃ s m, y = nI s ∧ q = nI m ∧ s < σ 0 1 0 ∧ m ≤ 1439 ∧ (∀ j, j < 10 → dL (σ 7 t j) ≤ 0) ∧ σ 3 t 0 < 10 ∧ (σ 3 t 0 = 0 ∨ (σ 6 t (σ 3 t 0 - 1) < m ∧ σ 5 t (σ 3 t 0 - 1) ≠ s))
    · obtain ⟨s, m, rfl, rfl, h1, h2, h3, h4, h5⟩ := hgood
      refine ⟨.inl (nI (σ 3 t 0)), trivial, stpS σ t s m, INV3_stp hv ht h1 h2 h4 h5, fun κ τ μ z w hw => ?_, fun σc κ μ z w hm hw => ?_⟩
      · unfold p_X5_stop
        refine Rx_assoc ?_
        refine Rx_rd (g_chk6 hw) ?_
        refine Rx_rd (q_trainOf wf hw ht) ?_
        refine Rx_rd (g_chk6 hw) ?_
        refine Rx_assoc ?_
        refine Rx_rd (g_chk3 hw) ?_
        refine Rx_rd (q_hasSt hw wf (by omega)) ?_
        refine Rx_ifb (fun e => absurd h1 e) (fun _ => ?_)
        refine Rx_rd (q_minute (by omega)) ?_
        refine Rx_ifb (fun e => absurd h2 e) (fun _ => ?_)
        refine Rx_assoc ?_
        refine Rx_rd (g_chk4 hw ht) ?_
        unfold p_X3_isUsed
        refine Rx_cn (L_used (f := 4095) hw ht 10 0 (by omega) (by omega) (fun j hj => absurd hj (Nat.not_lt_zero _))) (fun v w' ⟨e, hor⟩ => ?_)
        subst e
        rcases hor with ⟨rfl, _⟩ | ⟨_, j, a, b⟩
        · refine Rx_pos rfl ?_
          refine Rx_assoc ?_
          refine Rx_rd (g_chk4 hw ht) ?_
          unfold p_X3_addStop
          refine Rx_assoc ?_
          refine Rx_rd (g_stops hw ht) ?_
          refine Rx_negb (by rw [nL_10, nI_leI (by omega) (by omega)]; omega) ?_
          refine Rx_assoc ?_
          refine Rx_assoc ?_
          refine Rx_rd (g_chk4 hw ht) ?_
          refine Rx_rd (r_mayFollow hw wf ht (by omega) (by omega)) ?_
          refine Rx_negb (by rw [bI_t h5]; decide) ?_
          refine Rx_assoc ?_
          refine Rx_rd (g_chk4 hw ht) ?_
          refine Rx_assoc ?_
          refine Rx_rd (g_stops hw ht) ?_
          refine Rx_assoc ?_
          refine Rx_set (s_sta hw ht h4) (fun w1 hw1 => ?_)
          refine Rx_assoc ?_
          refine Rx_rd (g_chk4 hw1 ht) ?_
          refine Rx_assoc ?_
          refine Rx_rd (g_stops hw1 ht) ?_
          rw [us_ne (show 3 ≠ 5 by decide)]
          refine Rx_assoc ?_
          refine Rx_set (s_min hw1 ht h4) (fun w2 hw2 => ?_)
          refine Rx_assoc ?_
          refine Rx_rd (g_stops hw2 ht) ?_
          rw [us_ne (show 3 ≠ 6 by decide), us_ne (show 3 ≠ 5 by decide), nL_1, nI_add]
          refine Rx_assoc ?_
          refine Rx_set (s_stops hw2 ht) (fun w3 hw3 => ?_)
          refine Rx_assoc ?_
          refine Rx_rd (g_stops hw3 ht) ?_
          rw [us_self, nI_sub (by omega), Nat.add_sub_cancel]
          refine Rx_rd (w' := w3) (v := nI (σ 3 t 0)) rfl ?_
          exact Rx_rt ⟨rfl, κ, hw3⟩
        · exact absurd (h3 j a) b
      · unfold p_X6_stop
        rw [nL_0]
        refine Rx_set (t_code hw) (fun w1 hw1 => ?_)
        refine Rx_assoc ?_
        refine Rx_rd (g_chk7 hw1) ?_
        refine Rx_rd (q_isTy hw1 wf ht) ?_
        refine Rx_neg (by decide) ?_
        refine Rx_rd (g_chk7 hw1) ?_
        refine Rx_rd (h_stops hw1 (by omega)) ?_
        refine L_Mused (f := 4095) wf hw1 ht hst (fun v hor => ?_) (σ 3 t 0) 0 0 (by omega) (by omega) (Or.inl ⟨rfl, fun j hj => absurd hj (Nat.not_lt_zero _)⟩)
        rcases hor with ⟨rfl, _⟩ | ⟨_, j, a, b⟩
        · refine Rx_neg (by rw [nL_10, nI_eq (by omega) (by omega)]; omega) ?_
          refine Rx_pos rfl ?_
          refine Rx_neg (nI_pos (by omega)) ?_
          refine Rx_rd (h_st hw1) ?_
          refine Rx_neg (by rw [nI_leI (by omega) (by omega)]; omega) ?_
          refine Rx_neg (nI_pos (by omega)) ?_
          refine Rx_pos (by rw [nL_1439, nI_leI (by omega) (by omega)]; exact h2) ?_
          have go : Rx (p_X6_stop_b140 (nI t) (nI s) (nI m) (nI (σ 3 t 0))) w1 (fun v w' => ∃ μ', Wd σc κ (stpS σ t s m) μ' z w' ∧ HM μ' ∧ v = nI (σ 3 t 0) ∧ μ' 5 0 0 = 0) NE := by
            unfold p_X6_stop_b140
            refine Rx_rd (g_chk7 hw1) ?_
            refine Rx_rd (r_node hw1) ?_
            refine Rx_set (t_sta hw1 (by omega) h4) (fun w2 hw2 => ?_)
            refine Rx_rd (g_chk7 hw2) ?_
            refine Rx_rd (r_node hw2) ?_
            refine Rx_set (t_min hw2 (by omega) h4) (fun w3 hw3 => ?_)
            refine Rx_rd (g_chk7 hw3) ?_
            refine Rx_rd (h_stops hw3 (by omega)) ?_
            rw [us_ne (show 3 ≠ 6 by decide), us_ne (show 3 ≠ 5 by decide), nL_1, nI_add]
            refine Rx_set (t_stops hw3 (by omega)) (fun w4 hw4 => ?_)
            exact Rx_rt ⟨_, hw4, hm.code 0, rfl, us_code⟩
          refine Rx_if (fun _ => go) (fun h => ?_)
          rw [nI_leI (by omega) (by omega)] at h
          rw [nL_1, nI_sub (by omega)]
          refine Rx_rd (g_chk7 hw1) ?_
          refine Rx_rd (r_node hw1) ?_
          refine Rx_rd (h_min hw1 (by omega) (by omega)) ?_
          refine Rx_neg (by rw [nI_leI (by omega) (by omega)]; omega) ?_
          refine Rx_rd (g_chk7 hw1) ?_
          refine Rx_rd (r_node hw1) ?_
          refine Rx_rd (h_sta hw1 (by omega) (by omega)) ?_
          exact Rx_neg (by rw [nI_eq (by omega) (by omega)]; omega) go
        · exact absurd (h3 j (by omega)) b
    · refine ⟨.inl (-1), trivial, σ, hv, fun κ τ μ z w hw => ?_, fun σc κ μ z w hm hw => ?_⟩
      · unfold p_X5_stop p_X5_stop_b33
        have fin : Rx (prt (-1 : Int32)) w (fun v w' => (.inl (-1) : RS) = .inl v ∧ ∃ κ', Wd σ κ' τ μ z w') (fun e w' => (.inl (-1) : RS) = .inr e ∧ ∃ κ', Wd σ κ' τ μ (z.1 + 1, z.2.1 + 6, z.2.2) w') := Rx_rt ⟨rfl, κ, hw⟩
        refine Rx_assoc ?_
        refine Rx_rd (g_chk6 hw) ?_
        refine Rx_rd (q_trainOf wf hw ht) ?_
        refine Rx_rd (g_chk6 hw) ?_
        refine Rx_assoc ?_
        refine Rx_rd (g_chk3 hw) ?_
        rcases i_or y with hy | ⟨s, hs, rfl⟩
        · exact Rx_rd (q_hasStN hy) (Rx_pos rfl fin)
        refine Rx_rd (q_hasSt hw wf hs) ?_
        refine Rx_ifb (fun _ => fin) (fun h1 => ?_)
        rcases i_or q with hq | ⟨m, hm, rfl⟩
        · exact Rx_rd (q_minuteN hq) (Rx_pos rfl fin)
        refine Rx_rd (q_minute hm) ?_
        refine Rx_ifb (fun _ => fin) (fun h2 => ?_)
        refine Rx_assoc ?_
        refine Rx_rd (g_chk4 hw ht) ?_
        unfold p_X3_isUsed
        refine Rx_cn (L_used (f := 4095) hw ht 10 0 (by omega) (by omega) (fun j hj => absurd hj (Nat.not_lt_zero _))) (fun v w' ⟨e, hor⟩ => ?_)
        subst e
        rcases hor with ⟨rfl, h3⟩ | ⟨rfl, _⟩
        · refine Rx_pos rfl ?_
          refine Rx_assoc ?_
          refine Rx_rd (g_chk4 hw ht) ?_
          unfold p_X3_addStop p_X3_addStop_b18
          refine Rx_assoc ?_
          refine Rx_rd (g_stops hw ht) ?_
          by_cases h4 : σ 3 t 0 < 10
          · refine Rx_negb (by rw [nL_10, nI_leI (by omega) (by omega)]; omega) ?_
            refine Rx_assoc ?_
            refine Rx_assoc ?_
            refine Rx_rd (g_chk4 hw ht) ?_
            refine Rx_rd (r_mayFollow hw wf ht hs hm) ?_
            refine Rx_posb (bI_f (fun h5 => hgood ⟨s, m, rfl, rfl, h1, h2, h3, h4, h5⟩)) ?_
            exact Rx_rd (w' := w') rfl fin
          · refine Rx_posb (by rw [nL_10, nI_leI (by omega) (by omega)]; omega) ?_
            exact Rx_rd (w' := w') rfl fin
        · exact Rx_neg (by decide) fin
      · unfold p_X6_stop p_X6_stop_b97 p_X6_stop_b138
        rw [nL_0]
        refine Rx_set (t_code hw) (fun w1 hw1 => ?_)
        have fin : Rx (prt (-1 : Int32)) w1 (fun v w' => ∃ μ', Wd σc κ σ μ' z w' ∧ HM μ' ∧ v = -1 ∧ μ' 5 0 0 = 0) NE := Rx_rt ⟨_, hw1, hm.code 0, rfl, us_code⟩
        refine Rx_assoc ?_
        refine Rx_rd (g_chk7 hw1) ?_
        refine Rx_rd (q_isTy hw1 wf ht) ?_
        refine Rx_neg (by decide) ?_
        refine Rx_rd (g_chk7 hw1) ?_
        refine Rx_rd (h_stops hw1 (by omega)) ?_
        refine L_Mused (f := 4095) wf hw1 ht hst (fun v hor => ?_) (σ 3 t 0) 0 0 (by omega) (by omega) (Or.inl ⟨rfl, fun j hj => absurd hj (Nat.not_lt_zero _)⟩)
        refine Rx_if (fun _ => fin) (fun h4 => ?_)
        rw [nL_10, nI_eq (by omega) (by omega)] at h4
        rcases hor with ⟨rfl, h3⟩ | ⟨rfl, _⟩
        · refine Rx_pos rfl ?_
          rcases i_or y with hy | ⟨s, hs, rfl⟩
          · exact Rx_pos hy fin
          refine Rx_neg (nI_pos hs) ?_
          refine Rx_rd (h_st hw1) ?_
          refine Rx_if (fun _ => fin) (fun h1 => ?_)
          rw [nI_leI (by omega) (by omega)] at h1
          rcases i_or q with hq | ⟨m, hmm, rfl⟩
          · exact Rx_pos hq fin
          refine Rx_neg (nI_pos hmm) ?_
          refine Rx_if (fun h2 => ?_) (fun _ => fin)
          rw [nL_1439, nI_leI (by omega) (by omega)] at h2
          have h3' : ∀ j, j < 10 → dL (σ 7 t j) ≤ 0 := fun j hj => by
            by_cases e : j < σ 3 t 0
            · exact h3 j e
            · rw [wf.load t j (by omega)]; decide
          have hno : ¬ (σ 3 t 0 = 0 ∨ (σ 6 t (σ 3 t 0 - 1) < m ∧ σ 5 t (σ 3 t 0 - 1) ≠ s)) := fun h5 => hgood ⟨s, m, rfl, rfl, by omega, h2, h3', by omega, h5⟩
          refine Rx_if (fun h => ?_) (fun h => ?_)
          · rw [nI_leI (by omega) (by omega)] at h
            exact absurd (Or.inl (by omega)) hno
          rw [nI_leI (by omega) (by omega)] at h
          rw [nL_1, nI_sub (by omega)]
          refine Rx_rd (g_chk7 hw1) ?_
          refine Rx_rd (r_node hw1) ?_
          refine Rx_rd (h_min hw1 (by omega) (by omega)) ?_
          refine Rx_if (fun _ => fin) (fun h6 => ?_)
          rw [nI_leI (by omega) (by omega)] at h6
          refine Rx_rd (g_chk7 hw1) ?_
          refine Rx_rd (r_node hw1) ?_
          refine Rx_rd (h_sta hw1 (by omega) (by omega)) ?_
          refine Rx_if (fun _ => fin) (fun h7 => ?_)
          rw [nI_eq (by omega) (by omega)] at h7
          exact absurd (Or.inr ⟨by omega, h7⟩) hno
        · exact Rx_neg (by decide) fin
end OPS3
