/-! cancel: class and reference -/
def Pf (τ0 : SG) (t b y : Nat) : Bool := decide (y / 2 < b) && givG τ0 t (y / 2) && decide (y = cur τ0 (y / 2))
def Pg (τ0 : SG) (t b y : Nat) : Bool := decide (b ≤ y / 2) && decide (y / 2 < τ0 0 3 0) && givG τ0 t (y / 2) && decide (y = cur τ0 (y / 2))
section CR
variable {σ κ τ μ τ0 τr : SG} {z : BB} {w : PS}
theorem giv_iff {t b : Nat} : givG τ0 t b = true ↔ gvF τ0 (cur τ0 b) t ≠ 0 := decide_eq_true_iff
theorem giv_f {t b : Nat} : givG τ0 t b = false ↔ gvF τ0 (cur τ0 b) t = 0 := by
  unfold givG
  simp
theorem Pf_no {t b : Nat} (h : gvF τ0 (cur τ0 b) t = 0) : Pf τ0 t (b + 1) = Pf τ0 t b := by
  funext y
  unfold Pf
  by_cases q : y / 2 = b
  · rw [q, giv_f.mpr h]; simp
  · rw [show decide (y / 2 < b + 1) = decide (y / 2 < b) from decide_eq_decide.mpr (by omega)]
theorem Pf_yes {t b : Nat} (h : gvF τ0 (cur τ0 b) t ≠ 0) (y : Nat) : Pf τ0 t (b + 1) y = (Pf τ0 t b y || decide (y = cur τ0 b)) := by
  unfold Pf
  by_cases q : y / 2 = b
  · rw [q, giv_iff.mpr h]
    simp
  · rw [show decide (y / 2 < b + 1) = decide (y / 2 < b) from decide_eq_decide.mpr (by omega)]
    have : ¬ y = cur τ0 b := by
      intro e
      apply q
      rw [e, (cur_mod (σ := τ0) (b := b)).2.2]
    simp [this]
theorem Pf_cur {t b : Nat} : Pf τ0 t b (cur τ0 b) = false := by
  unfold Pf
  rw [(cur_mod (σ := τ0) (b := b)).2.2]
  simp
theorem Pg_no {t b : Nat} (h : gvF τ0 (cur τ0 b) t = 0) : Pg τ0 t (b + 1) = Pg τ0 t b := by
  funext y
  unfold Pg
  by_cases q : y / 2 = b
  · rw [q, giv_f.mpr h]; simp
  · rw [show decide (b + 1 ≤ y / 2) = decide (b ≤ y / 2) from decide_eq_decide.mpr (by omega)]
theorem Pg_yes {t b : Nat} (y : Nat) : Pg τ0 t (b + 1) y = (Pg τ0 t b y && decide (y ≠ cur τ0 b)) := by
  unfold Pg
  by_cases q : y / 2 = b
  · rw [q]
    by_cases e : y = cur τ0 b <;> simp [e] <;> (try (intro h; omega))
  · rw [show decide (b + 1 ≤ y / 2) = decide (b ≤ y / 2) from decide_eq_decide.mpr (by omega)]
    have : ¬ y = cur τ0 b := by
      intro e
      apply q
      rw [e, (cur_mod (σ := τ0) (b := b)).2.2]
    simp [this]
theorem Pg_cur {t b : Nat} (h : gvF τ0 (cur τ0 b) t ≠ 0) (hb : b < τ0 0 3 0) : Pg τ0 t b (cur τ0 b) = true := by
  unfold Pg
  rw [(cur_mod (σ := τ0) (b := b)).2.2, giv_iff.mpr h]
  simp [hb]
theorem Pf_Pg {t : Nat} : Pf τ0 t (τ0 0 3 0) = Pg τ0 t 0 := by
  funext y
  unfold Pf Pg
  simp
theorem Pg_end {t : Nat} (y : Nat) : Pg τ0 t (τ0 0 3 0) y = false := by
  unfold Pg
  by_cases q : y / 2 < τ0 0 3 0
  · simp [q, show ¬ τ0 0 3 0 ≤ y / 2 by omega]
  · simp [q]
theorem okW_c (h : ∀ x y q, x ≠ 7 → x ≠ 9 → x ≠ 10 → σ x y q = τ x y q) {i : Nat} (hi : okW τ i) : okW σ i := by
  unfold okW at hi ⊢
  rw [h 0 _ _ (by decide) (by decide) (by decide), h 8 _ _ (by decide) (by decide) (by decide)]
  exact hi
theorem Pf_ok (wf : WF τ0) {t b y : Nat} (hb : b ≤ τ0 0 3 0) (h : Pf τ0 t b y = true) : okW τ0 y := by
  unfold Pf at h
  simp only [Bool.and_eq_true, decide_eq_true_eq] at h
  rw [h.2]
  exact cur_ok wf (by omega)
theorem Pg_ok (wf : WF τ0) {t b y : Nat} (h : Pg τ0 t b y = true) : okW τ0 y := by
  unfold Pg at h
  simp only [Bool.and_eq_true, decide_eq_true_eq] at h
  rw [h.2]
  exact cur_ok wf h.1.1.2
def KT (τ0 : SG) (t b : Nat) (κ : SG) : Prop := ∀ b', b' < b → κ 3 (cur τ0 b') 0 = if givG τ0 t b' = true then 1 else 0
theorem cur_inj {a b : Nat} (h : cur τ0 a = cur τ0 b) : a = b := by
  have h1 := (cur_mod (σ := τ0) (b := a)).2.2
  have h2 := (cur_mod (σ := τ0) (b := b)).2.2
  rw [h] at h1
  omega
theorem KT_next {t b v : Nat} (h : KT τ0 t b κ) (hv : v = if givG τ0 t b = true then 1 else 0) : KT τ0 t (b + 1) (us κ 3 (cur τ0 b) 0 v) := by
  intro b' hb
  rw [us_at]
  by_cases q : b' = b
  · subst q; rw [if_pos ⟨rfl, rfl, rfl⟩]; exact hv
  · rw [if_neg (fun e => q (cur_inj e.2.1))]
    exact h b' (by omega)
theorem L_toff (wf0 : WF τ0) {t : Nat} (ht : t < 2 ^ 31) {kx : Int32 → PM Int32} {Q : Int32 → PS → Prop} {E : String → PS → Prop} :
    ∀ (m f b c : Nat) (τ κ : SG) (w : PS), b + m = τ0 0 3 0 → m ≤ f → P1 τ0 t b τ → Wd (stS (Pf τ0 t b) (τ0 0 0 0) τ) κ τr μ z w → KT τ0 t b κ → (∀ κ' w', Wd (stS (Pf τ0 t (τ0 0 3 0)) (τ0 0 0 0) (offL t m b c τ).2) κ' τr μ z w' → P1 τ0 t (τ0 0 3 0) (offL t m b c τ).2 → KT τ0 t (τ0 0 3 0) κ' → Rx (kx (nI (offL t m b c τ).1)) w' Q E) → Rx (p_X5_takeOffAll_L4 (nI t) kx (f + 1) (nI c) (nI b)) w Q E := by
  intro m
  induction m with
  | zero =>
    intro f b c τ κ w h1 h2 hp hw hkt hk
    have hbx := wf0.bx
    have e3 : stS (Pf τ0 t b) (τ0 0 0 0) τ 0 3 0 = τ0 0 3 0 := by rw [st_34 0 3 0 (by omega)]; exact hp.2.2.2.2.2 0 _ _ (by decide) (by decide) (by decide)
    rw [p_X5_takeOffAll_L4]
    refine Rx_rd (g_chk6 hw) ?_
    refine Rx_assoc ?_
    refine Rx_rd (g_chk01 hw) ?_
    refine Rx_rd (g_sz1 hw) ?_
    rw [e3]
    have : b = τ0 0 3 0 := by omega
    rw [this] at hw hp hkt ⊢
    exact Rx_pos (by rw [nI_leI (by omega) (by omega)]; omega) (hk κ w hw hp hkt)
  | succ m ih =>
    intro f b c τ κ w h1 h2 hp hw hkt hk
    have hbx := wf0.bx
    have hnow := wf0.now
    obtain ⟨f', rfl⟩ : ∃ f', f = f' + 1 := ⟨f - 1, by omega⟩
    have e3 : stS (Pf τ0 t b) (τ0 0 0 0) τ 0 3 0 = τ0 0 3 0 := by rw [st_34 0 3 0 (by omega)]; exact hp.2.2.2.2.2 0 _ _ (by decide) (by decide) (by decide)
    have e00 : stS (Pf τ0 t b) (τ0 0 0 0) τ 0 0 0 = τ0 0 0 0 := by rw [st_34 0 0 0 (by omega)]; exact hp.2.2.2.2.2 0 _ _ (by decide) (by decide) (by decide)
    have eτ3 : τ 0 3 0 = τ0 0 3 0 := hp.2.2.2.2.2 0 _ _ (by decide) (by decide) (by decide)
    have hb : b < stS (Pf τ0 t b) (τ0 0 0 0) τ 0 3 0 := by rw [e3]; omega
    have hbτ : b < τ 0 3 0 := by omega
    have ec : cur (stS (Pf τ0 t b) (τ0 0 0 0) τ) b = cur τ b := by unfold cur; rw [st_34 8 b 6 (by omega)]
    have ec0 : cur τ b = cur τ0 b := cur_c hp.2.2.2.2.2 b
    have wfs : WF (stS (Pf τ0 t b) (τ0 0 0 0) τ) := WF_st hp.1 (fun y hy => okW_c hp.2.2.2.2.2 (Pf_ok wf0 (by omega) hy)) hnow
    have hi : okW (stS (Pf τ0 t b) (τ0 0 0 0) τ) (cur τ b) := by rw [← ec]; exact cur_ok wfs hb
    have eg : gvF (stS (Pf τ0 t b) (τ0 0 0 0) τ) (cur τ b) t = gvF τ (cur τ b) t := gv_cong (st_34 9 _ 2 (by omega)) (fun q => st_34 10 _ q (by omega))
    have eg0 := P1_gv hp
    have hgl := gv_le (σ := τ) (i := cur τ b) (t := t)
    have hw3 := (hp.1.way (cur τ b)).2.1
    rw [p_X5_takeOffAll_L4]
    unfold p_X5_takeOffAll_b52 p_X5_takeOffAll_b81
    refine Rx_rd (g_chk6 hw) ?_
    refine Rx_assoc ?_
    refine Rx_rd (g_chk01 hw) ?_
    refine Rx_rd (g_sz1 hw) ?_
    refine Rx_neg (by rw [nI_leI (by omega) (by omega)]; omega) ?_
    refine Rx_rd (g_chk6 hw) ?_
    refine Rx_assoc ?_
    refine Rx_rd (g_chk01 hw) ?_
    refine Rx_rd (g_gt1 hw hb) ?_
    rw [nI_clamp (by omega)]
    refine Rx_rd (g_chk1 hw hb) ?_
    refine Rx_assoc ?_
    refine Rx_rd (g_chk1 hw hb) ?_
    refine Rx_rd (r_current hw hb) ?_
    rw [ec]
    refine Rx_assoc ?_
    refine Rx_rd (g_chk5 hw hi) ?_
    refine Rx_rd (q_flo wfs hw hi ht) ?_
    rw [eg]
    by_cases hg : gvF τ (cur τ b) t = 0
    · have hg0 : gvF τ0 (cur τ0 b) t = 0 := by rw [← eg0]; exact hg
      rw [hg]
      refine Rx_pos rfl ?_
      obtain ⟨w1, e1, hw1⟩ := s_off (v := 0) hw hi
      refine Rx_rd (w' := w1) (v := ()) ((if_pos (Or.inl rfl)).trans e1) ?_
      refine Rx_rd (g_off hw1 hi) ?_
      have ek : us κ 3 (cur τ b) 0 0 3 (cur τ b) 0 = 0 := if_pos ⟨rfl, rfl, rfl⟩
      rw [ek]
      refine Rx_pos rfl ?_
      rw [nI_1]
      have eo : offL t (m + 1) b c τ = offL t m (b + 1) c τ := by rw [offL, if_pos hg]
      rw [eo] at hk
      rw [← Pf_no hg0] at hw1
      refine ih f' (b + 1) c τ _ w1 (by omega) (by omega) (P1_no hp hg) hw1 ?_ hk
      rw [ec0]
      exact KT_next hkt (by rw [giv_f.mpr hg0]; rfl)
    · have hg0 : gvF τ0 (cur τ0 b) t ≠ 0 := by rw [← eg0]; exact hg
      rw [m1_pos (by omega)]
      refine Rx_neg (m1_lt _ (by omega)) ?_
      obtain ⟨w1, e1, hw1⟩ := s_off (v := 1) hw hi
      refine Rx_rd (w' := w1) (v := ()) ((if_pos (Or.inr rfl)).trans e1) ?_
      refine Rx_rd (g_off hw1 hi) ?_
      have ek : us κ 3 (cur τ b) 0 1 3 (cur τ b) 0 = 1 := if_pos ⟨rfl, rfl, rfl⟩
      rw [ek]
      refine Rx_neg (by decide) ?_
      refine Rx_rd (g_chk6 hw1) ?_
      refine Rx_rd (g_now hw1) ?_
      rw [e00]
      refine Rx_assoc ?_
      refine Rx_rd (g_chk3 hw1) ?_
      refine Rx_cn (R_giveUp wfs hw1 hi (by rw [st_34 9 _ 2 (by omega)]; omega) (by omega)) (fun _ w2 hw2 => ?_)
      rw [nI_1, nI_1]
      rw [st_give (P' := Pf τ0 t (b + 1)) (fun y => by rw [ec0]; exact Pf_yes hg0 y) (by rw [ec0]; exact Pf_cur)] at hw2
      have eo : offL t (m + 1) b c τ = offL t m (b + 1) (c + 1) (giveR τ (cur τ b) (gvF τ (cur τ b) t - 1)) := by rw [offL, if_neg hg]
      rw [eo] at hk
      refine ih f' (b + 1) (c + 1) _ _ w2 (by omega) (by omega) (P1_yes hp hbτ hg) hw2 ?_ hk
      rw [ec0]
      exact KT_next hkt (by rw [giv_iff.mpr hg0]; rfl)
theorem L_anew (wf0 : WF τ0) {t : Nat} {kx : PM Unit} {Q : Unit → PS → Prop} {E : String → PS → Prop} :
    ∀ (m f b : Nat) (τ κ : SG) (w : PS), b + m = τ0 0 3 0 → m ≤ f → P2 τ0 t b τ → Wd (stS (Pg τ0 t b) (τ0 0 0 0) τ) κ τr μ z w → KT τ0 t (τ0 0 3 0) κ → (∀ κ' w', Wd (newL (givG τ0 t) m b τ) κ' τr μ z w' → P2 τ0 t (τ0 0 3 0) (newL (givG τ0 t) m b τ) → Rx kx w' Q E) → Rx (p_X5_leadAnew_L2 kx (f + 1) (nI b)) w Q E := by
  intro m
  induction m with
  | zero =>
    intro f b τ κ w h1 h2 hp hw hkt hk
    have hbx := wf0.bx
    have e3 : stS (Pg τ0 t b) (τ0 0 0 0) τ 0 3 0 = τ0 0 3 0 := by rw [st_34 0 3 0 (by omega)]; exact hp.2.2.2.2 0 _ _ (by decide) (by decide) (by decide)
    rw [p_X5_leadAnew_L2]
    refine Rx_rd (g_chk6 hw) ?_
    refine Rx_assoc ?_
    refine Rx_rd (g_chk01 hw) ?_
    refine Rx_rd (g_sz1 hw) ?_
    rw [e3]
    have : b = τ0 0 3 0 := by omega
    rw [this] at hw hp ⊢
    rw [st_none Pg_end] at hw
    exact Rx_pos (by rw [nI_leI (by omega) (by omega)]; omega) (hk κ w hw hp)
  | succ m ih =>
    intro f b τ κ w h1 h2 hp hw hkt hk
    have hbx := wf0.bx
    have hnow := wf0.now
    obtain ⟨f', rfl⟩ : ∃ f', f = f' + 1 := ⟨f - 1, by omega⟩
    have e3 : stS (Pg τ0 t b) (τ0 0 0 0) τ 0 3 0 = τ0 0 3 0 := by rw [st_34 0 3 0 (by omega)]; exact hp.2.2.2.2 0 _ _ (by decide) (by decide) (by decide)
    have en : τ 0 0 0 = τ0 0 0 0 := hp.2.2.2.2 0 _ _ (by decide) (by decide) (by decide)
    have hb0 : b < τ0 0 3 0 := by omega
    have hb : b < stS (Pg τ0 t b) (τ0 0 0 0) τ 0 3 0 := by rw [e3]; omega
    have ec : cur (stS (Pg τ0 t b) (τ0 0 0 0) τ) b = cur τ b := by unfold cur; rw [st_34 8 b 6 (by omega)]
    have ec0 : cur τ b = cur τ0 b := cur_c hp.2.2.2.2 b
    have wfs : WF (stS (Pg τ0 t b) (τ0 0 0 0) τ) := WF_st hp.1 (fun y hy => okW_c hp.2.2.2.2 (Pg_ok wf0 hy)) hnow
    have hi : okW (stS (Pg τ0 t b) (τ0 0 0 0) τ) (cur τ b) := by rw [← ec]; exact cur_ok wfs hb
    have htb := hp.1.thb (cur τ b)
    have hwl := wt_le hp.1 (cur τ b)
    have hkb := hkt b hb0
    rw [p_X5_leadAnew_L2]
    unfold p_X5_leadAnew_b52
    refine Rx_rd (g_chk6 hw) ?_
    refine Rx_assoc ?_
    refine Rx_rd (g_chk01 hw) ?_
    refine Rx_rd (g_sz1 hw) ?_
    refine Rx_neg (by rw [nI_leI (by omega) (by omega)]; omega) ?_
    refine Rx_rd (g_chk6 hw) ?_
    refine Rx_assoc ?_
    refine Rx_rd (g_chk01 hw) ?_
    refine Rx_rd (g_gt1 hw hb) ?_
    rw [nI_clamp (by omega)]
    refine Rx_rd (g_chk1 hw hb) ?_
    refine Rx_assoc ?_
    refine Rx_rd (g_chk1 hw hb) ?_
    refine Rx_rd (r_current hw hb) ?_
    rw [ec]
    refine Rx_rd (g_off hw hi) ?_
    rw [ec0, hkb]
    by_cases hg0 : gvF τ0 (cur τ0 b) t = 0
    · rw [giv_f.mpr hg0]
      refine Rx_pos rfl ?_
      rw [nI_1]
      have eo : newL (givG τ0 t) (m + 1) b τ = newL (givG τ0 t) m (b + 1) τ := by rw [newL, giv_f.mpr hg0]; rfl
      rw [eo] at hk
      rw [← Pg_no hg0] at hw
      exact ih f' (b + 1) τ κ w (by omega) (by omega) (P2_no hp hg0) hw hkt hk
    · rw [giv_iff.mpr hg0]
      refine Rx_neg (by decide) ?_
      rw [← ec0]
      have hPc : Pg τ0 t b (cur τ b) = true := by rw [ec0]; exact Pg_cur hg0 hb0
      have es3 : stS (Pg τ0 t b) (τ0 0 0 0) τ 9 (cur τ b) 3 = wtS τ (cur τ b) + 1 := by rw [st_at3, if_pos hPc]
      have es4 : stS (Pg τ0 t b) (τ0 0 0 0) τ 9 (cur τ b) 4 = max (thereS τ (cur τ b)) (τ0 0 0 0) := by rw [st_at4, if_pos hPc]
      refine Rx_rd (g_chk6 hw) ?_
      refine Rx_rd (g_stands hw hi) ?_
      refine Rx_rd (g_since hw hi) ?_
      rw [es3, es4, if_neg (by omega), m1_s]
      refine Rx_assoc ?_
      refine Rx_rd (g_chk3 hw) ?_
      refine Rx_cn (R_leadOn wfs hw hi hwl (by omega)) (fun v w1 ⟨κ1, hk2, hor⟩ => ?_)
      rw [nI_1]
      have hP' : ∀ y, Pg τ0 t (b + 1) y = (Pg τ0 t b y && decide (y ≠ cur τ b)) := fun y => by rw [ec0]; exact Pg_yes y
      rw [st_lead hP'] at hor
      have eo : newL (givG τ0 t) (m + 1) b τ = newL (givG τ0 t) m (b + 1) (anew τ (cur τ b)) := by rw [newL, giv_iff.mpr hg0]; rfl
      rw [eo] at hk
      have hkt1 : KT τ0 t (τ0 0 3 0) κ1 := fun b' hb' => by rw [hk2 3 _ _ (by decide)]; exact hkt b' hb'
      have hwn : Wd (stS (Pg τ0 t (b + 1)) (τ0 0 0 0) (anew τ (cur τ b))) κ1 τr μ z w1 := by
        unfold anew
        rw [en]
        cases hl : leadF τ (cur τ b) (wtS τ (cur τ b)) (max (thereS τ (cur τ b)) (τ0 0 0 0)) with
        | some τ' =>
          rw [hl] at hor
          rcases hor with ⟨a, _, _⟩ | ⟨σ', a, _, d⟩
          · cases a
          · injection a with a
            rw [← a] at d
            exact d
        | none =>
          rw [hl] at hor
          rcases hor with ⟨_, _, d⟩ | ⟨σ', a, _, _⟩
          · rw [st_fail hP' hPc] at d
            exact d
          · cases a
      exact ih f' (b + 1) _ κ1 w1 (by omega) (by omega) (P2_yes hp hb0 hg0) hwn hkt1 hk
def KG (τ0 : SG) (t b : Nat) (μ : SG) : Prop := ∀ b', b' < b → μ 3 b' 0 = if givG τ0 t b' = true then 1 else 0
theorem KG_next {t b v : Nat} (h : KG τ0 t b μ) (hv : v = if givG τ0 t b = true then 1 else 0) : KG τ0 t (b + 1) (us μ 3 b 0 v) := by
  intro b' hb
  rw [us_at]
  by_cases q : b' = b
  · subst q; rw [if_pos ⟨rfl, rfl, rfl⟩]; exact hv
  · rw [if_neg (fun e => q e.2.1)]
    exact h b' (by omega)
theorem HM.gives (h : HM μ) (b v : Nat) : HM (us μ 3 b 0 v) := fun i => by
  rw [us_at, us_at, if_neg (fun e => by omega), if_neg (fun e => by omega)]
  exact h i
theorem L_Moff (wf0 : WF τ0) {t : Nat} (ht : t < 2 ^ 31) {kx : Int32 → PM Int32} {Q : Int32 → PS → Prop} {E : String → PS → Prop} :
    ∀ (m f b c : Nat) (τ μ : SG) (w : PS), b + m = τ0 0 3 0 → m ≤ f → P1 τ0 t b τ → HM μ → Wd σ κ τ μ z w → KG τ0 t b μ → (∀ μ' w', Wd σ κ (offL t m b c τ).2 μ' z w' → HM μ' → P1 τ0 t (τ0 0 3 0) (offL t m b c τ).2 → KG τ0 t (τ0 0 3 0) μ' → μ' 5 0 0 = μ 5 0 0 → Rx (kx (nI (offL t m b c τ).1)) w' Q E) → Rx (p_X6_cancel_L66 (nI t) kx (f + 1) (nI c) (nI b)) w Q E := by
  intro m
  induction m with
  | zero =>
    intro f b c τ μ w h1 h2 hp hm hw hkt hk
    have hbx := wf0.bx
    have e3 : τ 0 3 0 = τ0 0 3 0 := hp.2.2.2.2.2 0 _ _ (by decide) (by decide) (by decide)
    rw [p_X6_cancel_L66]
    refine Rx_rd (h_bx hw) ?_
    rw [e3]
    have : b = τ0 0 3 0 := by omega
    rw [this] at hp hkt ⊢
    exact Rx_pos (by rw [nI_leI (by omega) (by omega)]; omega) (hk μ w hw hm hp hkt rfl)
  | succ m ih =>
    intro f b c τ μ w h1 h2 hp hm hw hkt hk
    have hbx := wf0.bx
    have wt := hp.1
    obtain ⟨f', rfl⟩ : ∃ f', f = f' + 1 := ⟨f - 1, by omega⟩
    have e3 : τ 0 3 0 = τ0 0 3 0 := hp.2.2.2.2.2 0 _ _ (by decide) (by decide) (by decide)
    have hbτ : b < τ 0 3 0 := by omega
    have hb6 : b < 60 := by omega
    have hi := cur_lt wt hb6
    have eg0 := P1_gv hp
    have hgl := gv_le (σ := τ) (i := cur τ b) (t := t)
    have hw3 := (wt.way (cur τ b)).2.1
    rw [p_X6_cancel_L66]
    unfold p_X6_cancel_b98 p_X6_cancel_b144
    refine Rx_rd (h_bx hw) ?_
    refine Rx_neg (by rw [nI_leI (by omega) (by omega)]; omega) ?_
    refine Rx_assoc ?_
    refine Rx_rd (g_chk7 hw) ?_
    refine Rx_rd (q_Mfo wt hw hb6 ht) ?_
    refine Rx_rd (g_chk7 hw) ?_
    by_cases hg : gvF τ (cur τ b) t = 0
    · have hg0 : gvF τ0 (cur τ0 b) t = 0 := by rw [← eg0]; exact hg
      rw [hg]
      refine Rx_pos rfl ?_
      obtain ⟨w1, e1, hw1⟩ := t_gives (v := 0) hw hb6
      refine Rx_rd (w' := w1) (v := ()) ((if_pos (Or.inl rfl)).trans e1) ?_
      refine Rx_pos rfl ?_
      rw [nI_1]
      have eo : offL t (m + 1) b c τ = offL t m (b + 1) c τ := by rw [offL, if_pos hg]
      rw [eo] at hk
      refine ih f' (b + 1) c τ _ w1 (by omega) (by omega) (P1_no hp hg) (hm.gives b 0) hw1 (KG_next hkt (by rw [giv_f.mpr hg0]; rfl)) (fun μ' w' a1 a2 a3 a4 a5 => hk μ' w' a1 a2 a3 a4 (by rw [a5]; exact if_neg (fun e => by omega)))
    · have hg0 : gvF τ0 (cur τ0 b) t ≠ 0 := by rw [← eg0]; exact hg
      rw [m1_pos (by omega)]
      refine Rx_neg (m1_lt _ (by omega)) ?_
      obtain ⟨w1, e1, hw1⟩ := t_gives (v := 1) hw hb6
      refine Rx_rd (w' := w1) (v := ()) ((if_pos (Or.inr rfl)).trans e1) ?_
      refine Rx_neg (m1_lt _ (by omega)) ?_
      refine Rx_assoc ?_
      refine Rx_rd (g_chk7 hw1) ?_
      refine Rx_rd (r_Mway hw1 wt hb6) ?_
      refine Rx_assoc ?_
      refine Rx_rd (g_chk7 hw1) ?_
      refine Rx_cn (R_load0 hw1 hi (show gvF τ (cur τ b) t - 1 ≤ τ 9 (cur τ b) 2 by omega) hw3 (LV_wf wt _ _)) (fun _ w2 hw2 => ?_)
      refine Rx_rd (g_chk7 hw2) ?_
      refine Rx_set (t_many hw2 hi) (fun w3 hw3 => ?_)
      refine Rx_rd (g_chk7 hw3) ?_
      obtain ⟨w4, e4, hw4⟩ := t_has0 hw3 hi
      refine Rx_rd (w' := w4) (v := ()) ((if_pos (Or.inl rfl)).trans e4) ?_
      rw [nI_1, nI_1]
      have eo : offL t (m + 1) b c τ = offL t m (b + 1) (c + 1) (giveR τ (cur τ b) (gvF τ (cur τ b) t - 1)) := by rw [offL, if_neg hg]
      rw [eo] at hk
      exact ih f' (b + 1) (c + 1) _ _ w4 (by omega) (by omega) (P1_yes hp hbτ hg) (hm.gives b 1) hw4 (KG_next hkt (by rw [giv_iff.mpr hg0]; rfl)) (fun μ' w' a1 a2 a3 a4 a5 => hk μ' w' a1 a2 a3 a4 (by rw [a5]; exact if_neg (fun e => by omega)))
theorem L_Manew (wf0 : WF τ0) {t : Nat} {x2 : Int32} {kx : PM Int32} {Q : Int32 → PS → Prop} {E : String → PS → Prop} :
    ∀ (m f b : Nat) (τ μ : SG) (w : PS), b + m = τ0 0 3 0 → m ≤ f → P2 τ0 t b τ → HM μ → Wd σ κ τ μ z w → KG τ0 t (τ0 0 3 0) μ → (∀ μ' w', Wd σ κ (newL (givG τ0 t) m b τ) μ' z w' → HM μ' → P2 τ0 t (τ0 0 3 0) (newL (givG τ0 t) m b τ) → μ' 5 0 0 = μ 5 0 0 → Rx kx w' Q E) → Rx (p_X6_cancel_L152 x2 kx (f + 1) (nI b)) w Q E := by
  intro m
  induction m with
  | zero =>
    intro f b τ μ w h1 h2 hp hm hw hkt hk
    have hbx := wf0.bx
    have e3 : τ 0 3 0 = τ0 0 3 0 := hp.2.2.2.2 0 _ _ (by decide) (by decide) (by decide)
    rw [p_X6_cancel_L152]
    refine Rx_rd (h_bx hw) ?_
    rw [e3]
    have : b = τ0 0 3 0 := by omega
    rw [this] at hp ⊢
    exact Rx_pos (by rw [nI_leI (by omega) (by omega)]; omega) (hk μ w hw hm hp rfl)
  | succ m ih =>
    intro f b τ μ w h1 h2 hp hm hw hkt hk
    have hbx := wf0.bx
    have wt := hp.1
    have hnow := wt.now
    obtain ⟨f', rfl⟩ : ∃ f', f = f' + 1 := ⟨f - 1, by omega⟩
    have e3 : τ 0 3 0 = τ0 0 3 0 := hp.2.2.2.2 0 _ _ (by decide) (by decide) (by decide)
    have hb0 : b < τ0 0 3 0 := by omega
    have hbτ : b < τ 0 3 0 := by omega
    have hb6 : b < 60 := by omega
    have hi := cur_lt wt hb6
    have hio := cur_ok wt hbτ
    have ec0 : cur τ b = cur τ0 b := cur_c hp.2.2.2.2 b
    have hw3 := (wt.way (cur τ b)).2.1
    have htb := wt.thb (cur τ b)
    have hwl := wt_le wt (cur τ b)
    have hkb := hkt b hb0
    rw [p_X6_cancel_L152]
    refine Rx_rd (h_bx hw) ?_
    refine Rx_neg (by rw [nI_leI (by omega) (by omega)]; omega) ?_
    refine Rx_rd (g_chk7 hw) ?_
    refine Rx_rd (h_gives hw hb6) ?_
    rw [hkb]
    by_cases hg0 : gvF τ0 (cur τ0 b) t = 0
    · rw [giv_f.mpr hg0]
      refine Rx_pos rfl ?_
      unfold p_X6_cancel_b286
      rw [nI_1]
      have eo : newL (givG τ0 t) (m + 1) b τ = newL (givG τ0 t) m (b + 1) τ := by rw [newL, giv_f.mpr hg0]; rfl
      rw [eo] at hk
      exact ih f' (b + 1) τ μ w (by omega) (by omega) (P2_no hp hg0) hm hw hkt hk
    · rw [giv_iff.mpr hg0]
      refine Rx_neg (by decide) ?_
      have hb2 := (cur_mod (σ := τ) (b := b)).2.2
      have hG : Gv τ0 t (cur τ b) := ⟨by rw [hb2]; exact hg0, by rw [hb2]; exact ec0⟩
      have hs := hp.2.2.2.1 (cur τ b) (by omega) (by omega) hG
      have eo : newL (givG τ0 t) (m + 1) b τ = newL (givG τ0 t) m (b + 1) (anew τ (cur τ b)) := by rw [newL, giv_iff.mpr hg0]; rfl
      rw [eo] at hk
      have go : Rx (p_X6_cancel_b235 (p_X6_cancel_L152 x2 kx (f' + 1)) x2 (nI b) (nI (cur τ b)) (nI (wtS τ (cur τ b)))) w Q E := by
        unfold p_X6_cancel_b235 p_X6_cancel_b286
        refine Rx_rd (h_now hw) ?_
        refine Rx_assoc ?_
        refine Rx_rd (g_chk7 hw) ?_
        refine Rx_rd (r_Mthere hw wt hb6) ?_
        rw [mx_nI (by omega) (by omega), Nat.max_comm]
        refine Rx_assoc ?_
        refine Rx_rd (g_chk7 hw) ?_
        refine Rx_cn (R_MleadOn wt hw hb6 hwl (by omega) hm (fun τ' q => WF_lead wt hio (PW_new hs.1 hs.2) (by omega) q)) (fun v w1 ⟨μ1, km, hh, hor⟩ => ?_)
        have hkt1 : KG τ0 t (τ0 0 3 0) μ1 := fun b' hb' => by rw [km 3 _ _ (by decide)]; exact hkt b' hb'
        have h5 := km 5 0 0 (by decide)
        have hpn := P2_yes hp hb0 hg0
        rcases hor with ⟨a, rfl, d⟩ | ⟨τ', a, rfl, d⟩
        · refine Rx_pos rfl ?_
          have ea : anew τ (cur τ b) = us (us τ 9 (cur τ b) 3 (wtS τ (cur τ b) + 1)) 9 (cur τ b) 4 (max (thereS τ (cur τ b)) (τ 0 0 0)) := by
            unfold anew
            rw [a]
          refine Rx_rd (g_chk7 d) ?_
          refine Rx_set (t_standsS d hi) (fun w2 hw2 => ?_)
          refine Rx_rd (g_chk7 hw2) ?_
          refine Rx_set (t_since hw2 hi) (fun w3 hw3 => ?_)
          rw [nI_1]
          have eu : us (us (us τ 9 (cur τ b) 3 (wtS τ (cur τ b) + 1)) 9 (cur τ b) 4 (eL (w1.2.2.2.1 9 26 (cur τ b)))) 9 (cur τ b) 4 (max (thereS τ (cur τ b)) (τ 0 0 0)) = anew τ (cur τ b) := by
            rw [ea]
            funext x y q
            simp only [us_at]
            by_cases e : x = 9 ∧ y = cur τ b ∧ q = 4
            · simp only [if_pos e]
            · simp only [if_neg e]
          rw [eu] at hw3
          exact ih f' (b + 1) _ μ1 w3 (by omega) (by omega) hpn hh hw3 hkt1 (fun μ' w' a1 a2 a3 a4 => hk μ' w' a1 a2 a3 (by rw [a4, h5]))
        · refine Rx_neg (by decide) ?_
          have ea : anew τ (cur τ b) = τ' := by
            unfold anew
            rw [a]
          rw [nI_1]
          rw [← ea] at d
          exact ih f' (b + 1) _ μ1 w1 (by omega) (by omega) hpn hh d hkt1 (fun μ' w' a1 a2 a3 a4 => hk μ' w' a1 a2 a3 (by rw [a4, h5]))
      refine Rx_assoc ?_
      refine Rx_rd (g_chk7 hw) ?_
      refine Rx_rd (r_Mway hw wt hb6) ?_
      refine Rx_rd (g_chk7 hw) ?_
      refine Rx_rd (h_many hw hi) ?_
      by_cases h0 : τ 9 (cur τ b) 2 = 0
      · refine Rx_rd (w' := w) rfl ?_
        refine Rx_rd (g_chk7 hw) ?_
        refine Rx_rd (h_many hw hi) ?_
        refine Rx_pos (by rw [h0]; rfl) ?_
        refine Rx_assoc ?_
        refine Rx_rd (g_chk7 hw) ?_
        refine Rx_rd (r_Mfrom hw wt hb6) ?_
        have ew : wtS τ (cur τ b) = fromS τ (cur τ b) := by unfold wtS; rw [if_pos h0]
        rw [ew] at go
        exact go
      · have hl := wt.leg (cur τ b) (τ 9 (cur τ b) 2 - 1) (by omega)
        have hst := wt.stops (τ 10 (cur τ b) (3 * (τ 9 (cur τ b) 2 - 1)))
        have h16 := wt.tr
        rw [nL_1, nI_sub (by omega)]
        refine Rx_rd (r_legAt hw) ?_
        refine Rx_rd (g_chk7 hw) ?_
        refine Rx_rd (h_many hw hi) ?_
        refine Rx_neg (by rw [nL_0, nI_eq (by omega) (by omega)]; exact h0) ?_
        refine Rx_rd (g_chk7 hw) ?_
        refine Rx_rd (g_chk7 hw) ?_
        refine Rx_rd (h_legT hw hi (by omega)) ?_
        refine Rx_rd (g_chk7 hw) ?_
        refine Rx_rd (h_legF hw hi (by omega)) ?_
        refine Rx_rd (r_node hw) ?_
        refine Rx_rd (h_sta hw (by omega) (by omega)) ?_
        have ew : wtS τ (cur τ b) = τ 5 (τ 10 (cur τ b) (3 * (τ 9 (cur τ b) 2 - 1))) (τ 10 (cur τ b) (3 * (τ 9 (cur τ b) 2 - 1) + 2)) := by unfold wtS; rw [if_neg h0]
        rw [ew] at go
        exact go
end CR
