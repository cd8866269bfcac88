/-! the calls, one by one: class and reference answer alike -/
def SB (σ : SG) : Prop := (∀ t k, k < σ 3 t 0 → σ 5 t k < σ 0 1 0) ∧ ∀ b, b < σ 0 3 0 → σ 8 b 0 < σ 0 1 0 ∧ σ 8 b 3 < σ 0 1 0
def INV3 (σ : SG) : Prop := INV σ ∧ SB σ
abbrev RS : Type := Int32 ⊕ String
def Cls (p : PM Int32) (σ σ' : SG) (r : RS) : Prop := ∀ κ τ μ z w, Wd σ κ τ μ z w → Rx p w (fun v w' => r = .inl v ∧ ∃ κ', Wd σ' κ' τ μ z w') (fun e w' => r = .inr e ∧ ∃ κ', Wd σ' κ' τ μ (z.1 + 1, z.2.1 + 6, z.2.2) w')
def Rfr (p : PM Int32) (cf : String → Nat) (σ σ' : SG) (r : RS) : Prop := ∀ σc κ μ z w, HM μ → Wd σc κ σ μ z w → Rx p w (fun v w' => ∃ μ', Wd σc κ σ' μ' z w' ∧ HM μ' ∧ (match r with | .inl a => v = a ∧ μ' 5 0 0 = 0 | .inr e => μ' 5 0 0 = cf e)) NE
def okR (S : String → Prop) : RS → Prop
  | .inl _ => True
  | .inr e => S e
def Op (pc pm : PM Int32) (cf : String → Nat) (S : String → Prop) (σ : SG) : Prop := ∃ r, okR S r ∧ ∃ σ', INV3 σ' ∧ Cls pc σ σ' r ∧ Rfr pm cf σ σ' r
abbrev eN : String := "java/util/NoSuchElementException"
abbrev eI : String := "java/lang/IllegalArgumentException"
def cf1 : String → Nat := fun _ => 1
abbrev sN : String → Prop := fun e => e = eN
abbrev sI : String → Prop := fun e => e = eI
abbrev sNI : String → Prop := fun e => e = eN ∨ e = eI
section NET
variable {σ σ' : SG}
theorem WF_net (wf : WF σ) (e7 : ∀ y q, σ' 7 y q = σ 7 y q) (e8 : ∀ y q, σ' 8 y q = σ 8 y q) (e9 : ∀ y q, σ' 9 y q = σ 9 y q) (e10 : ∀ y q, σ' 10 y q = σ 10 y q)
    (hn : σ' 0 0 0 ≤ 1439) (hst : σ' 0 1 0 ≤ 10) (htr : σ 0 2 0 ≤ σ' 0 2 0 ∧ σ' 0 2 0 ≤ 16) (hbx : σ' 0 3 0 = σ 0 3 0) (hca : σ' 0 4 0 ≤ 40)
    (hso : ∀ i, σ' 1 i 0 ≤ 60) (hro : ∀ t, σ' 2 t 0 ≤ 40) (hsp : ∀ t, σ 3 t 0 ≤ σ' 3 t 0 ∧ σ' 3 t 0 ≤ 10) (hcn : ∀ t, σ' 4 t 0 ≤ 1) (hsa : ∀ t k, σ' 5 t k < 10) (hmi : ∀ t k, σ' 6 t k ≤ 1439)
    (hinc : ∀ t k l, k < l → l < σ' 3 t 0 → σ' 6 t k < σ' 6 t l)
    (hold : ∀ t k, k < σ 3 t 0 → σ' 5 t k = σ 5 t k ∧ σ' 6 t k = σ 6 t k ∧ srt σ' t k = srt σ t k)
    (hbeg : ∀ w, w / 2 < σ 0 3 0 → begS σ' w = begS σ w) (hda : ∀ i, σ' 11 i 0 ≤ 31)
    (hft : ∀ t, σ' 0 2 0 ≤ t → σ' 3 t 0 = 0 ∧ σ' 4 t 0 = 0 ∧ σ' 2 t 0 = 0 ∧ ∀ k, σ' 5 t k = 0 ∧ σ' 6 t k = 0 ∧ dL (σ' 7 t k) = 0) : WF σ' := by
  have ef : ∀ w, fromS σ' w = fromS σ w := fun w => by unfold fromS; rw [e8, e8]
  have et : ∀ w, toS σ' w = toS σ w := fun w => by unfold toS; rw [e8, e8]
  refine ⟨hn, hst, htr.2, by rw [hbx]; exact wf.bx, hca, hso, hro, fun t => (hsp t).2, hcn, hsa, hmi, hinc, fun t k hk => by rw [e7]; exact wf.load t k (by have := (hsp t).1; omega), fun b => by simp only [e8]; exact wf.box b, fun w => by simp only [e9]; exact wf.way w, fun w i hi => ?_, fun w j => by rw [e10]; exact wf.legb w j, fun w i hi => ?_, fun w hw => by rw [ef, et]; rw [e9] at hw; exact wf.ft w hw, fun w hw => ?_, hda, hft, fun w hw => ?_, fun b hb => by rw [e8]; rw [hbx] at hb; exact wf.freshB b hb, fun b hb => by rw [e8] at hb ⊢; exact wf.rb b hb⟩
  · rw [e9] at hi
    rw [e10, e10, e10]
    have := wf.leg w i hi
    have h2 := (hsp (σ 10 w (3 * i))).1
    omega
  · rw [e9] at hi
    simp only [e10]
    have h1 := wf.leg w i (by omega)
    have h2 := wf.leg w (i + 1) hi
    have a1 := hold (σ 10 w (3 * i)) (σ 10 w (3 * i + 2)) h1.2.2
    have a2 := hold (σ 10 w (3 * (i + 1))) (σ 10 w (3 * (i + 1) + 1)) (by omega)
    rw [a1.2.2, a1.1, a2.2.1, et]
    exact wf.chain w i hi
  · rw [e9] at hw ⊢
    have hb : w / 2 < σ 0 3 0 := by
      rcases Nat.lt_or_ge (w / 2) (σ 0 3 0) with q | q
      · exact q
      · exact absurd (wf.freshW w (Or.inl q)).2.2.1 hw
    have := wf.there w hw
    rw [this]
    unfold thereS
    rw [e9, e10, e10, hbeg w hb]
    by_cases q : σ 9 w 2 = 0
    · rw [if_pos q, if_pos q]
    · rw [if_neg q, if_neg q, (hold _ _ (wf.leg w (σ 9 w 2 - 1) (by omega)).2.2).2.2]
  · rw [hbx, e8] at hw
    have := wf.freshW w hw
    simp only [e9, e10, hbx]
    exact this
theorem SN_net (wf : WF σ) (sn : SN σ) (e8 : ∀ y q, σ' 8 y q = σ 8 y q) (e9 : ∀ y q, σ' 9 y q = σ 9 y q) (e10 : ∀ y q, σ' 10 y q = σ 10 y q) (hbx : σ' 0 3 0 = σ 0 3 0)
    (hold : ∀ t k, k < σ 3 t 0 → σ' 5 t k = σ 5 t k ∧ σ' 6 t k = σ 6 t k ∧ srt σ' t k = srt σ t k) : SN σ' := by
  refine ⟨fun w h3 hb => ?_, fun w hw => ?_⟩
  · rw [e9] at h3
    rw [hbx] at hb
    have h := sn.1 w h3 hb
    have ef : fromS σ' w = fromS σ w := by unfold fromS; rw [e8, e8]
    have et : toS σ' w = toS σ w := by unfold toS; rw [e8, e8]
    simp only [e9, e10, ef, et]
    refine ⟨h.1, h.2.1, fun q => ?_, h.2.2.2⟩
    have := hold _ _ (wf.leg w (σ 9 w 2 - 1) (by omega)).2.2
    rw [this.1, this.2.2]
    exact h.2.2.1 q
  · rw [e9] at hw
    rw [e9, e9]
    exact sn.2 w hw
end NET
section OPS
variable {σ κ τ μ : SG} {z : BB} {w : PS}
theorem HM.fail (h : HM μ) (v : Nat) : HM (us μ 5 0 0 v) := h.code v
theorem us_code {v : Nat} : us μ 5 0 0 v 5 0 0 = v := if_pos ⟨rfl, rfl, rfl⟩
/-- the reference fails -/
theorem R_fail (hw : Wd σ κ τ μ z w) : Rx p_X6_fail w (fun v w' => v = 0 ∧ Wd σ κ τ (us μ 5 0 0 1) z w') NE := by
  unfold p_X6_fail
  rw [nL_1]
  exact Rx_set (t_code hw) (fun w1 hw1 => Rx_rt ⟨rfl, hw1⟩)
theorem pbnd_thr {α β : Type} {m : PM β} {f : β → PM α} {w w' : PS} {e : String} (h : m w = some (.inr e, w')) : pbnd m f w = some (.inr e, w') := by simp only [pbnd, h]
theorem Wd.thr (hw : Wd σ κ τ μ z w) : Wd σ κ τ μ (z.1 + 1, z.2.1 + 6, z.2.2) (w.1 + 1, w.2.1 + 6, w.2.2) := ⟨⟨by show w.1 + 1 = _; rw [hw.1.1], by show w.2.1 + 6 = _; rw [hw.1.2.1], hw.1.2.2⟩, hw.2⟩
def nnT (σ : SG) (x : Int32) : Prop := x < 0 ∨ ∃ n, n < 2 ^ 31 ∧ σ 0 2 0 ≤ n ∧ x = nI n
def nnB (σ : SG) (x : Int32) : Prop := x < 0 ∨ ∃ n, n < 2 ^ 31 ∧ σ 0 3 0 ≤ n ∧ x = nI n
theorem isT_or (x : Int32) : nnT σ x ∨ ∃ n, n < σ 0 2 0 ∧ x = nI n := by
  rcases i_or x with h | ⟨n, h1, h2⟩
  · exact Or.inl (Or.inl h)
  · by_cases q : n < σ 0 2 0
    · exact Or.inr ⟨n, q, h2⟩
    · exact Or.inl (Or.inr ⟨n, h1, by omega, h2⟩)
theorem isB_or (x : Int32) : nnB σ x ∨ ∃ n, n < σ 0 3 0 ∧ x = nI n := by
  rcases i_or x with h | ⟨n, h1, h2⟩
  · exact Or.inl (Or.inl h)
  · by_cases q : n < σ 0 3 0
    · exact Or.inr ⟨n, q, h2⟩
    · exact Or.inl (Or.inr ⟨n, h1, by omega, h2⟩)
theorem q_trainOf (wf : WF σ) (hw : Wd σ κ τ μ z w) {n : Nat} (hn : n < σ 0 2 0) : p_X5_trainOf (nI n) w = some (.inl n, w) := by
  have := wf.tr
  refine Rx_un ?_
  unfold p_X5_trainOf
  refine Rx_neg (nI_pos (by omega)) ?_
  (repeat (first | with_reducible refine Rx_assoc ?_ | (simp (disch := omega) only [nL_0, nL_1, nL_2, nL_3, nL_4, nL_5, nL_6, nL_7, nL_10, nL_16, nL_31, nL_40, nL_60, nL_120, nL_160, nL_1439, nL_1000000, nL_10000000, nL_268435456, nI_clamp, nI_1, nI_add, nI_sub, nI_pred, nI_mulI]) | with_reducible refine Rx_rd (g_row3 (by first | assumption | omega)) ?_ | with_reducible refine Rx_rd (g_row4 (by first | assumption | omega)) ?_ | with_reducible refine Rx_rd (g_chk0 hw) ?_ | with_reducible refine Rx_rd (g_chk01 hw) ?_ | with_reducible refine Rx_rd (g_chk1 hw (by first | assumption | omega)) ?_ | with_reducible refine Rx_rd (g_chk2 hw) ?_ | with_reducible refine Rx_rd (g_chk3 hw) ?_ | with_reducible refine Rx_rd (g_chk4 hw (by first | assumption | omega)) ?_ | with_reducible refine Rx_rd (g_chk5 hw (by first | assumption | omega)) ?_ | with_reducible refine Rx_rd (g_chk6 hw) ?_ | with_reducible refine Rx_rd (g_chk7 hw) ?_ | with_reducible refine Rx_rd (g_gO0 hw (by first | assumption | omega)) ?_ | with_reducible refine Rx_rd (g_gB hw (by first | assumption | omega) (by first | assumption | omega)) ?_ | with_reducible refine Rx_rd (g_st hw) ?_ | with_reducible refine Rx_rd (g_ca hw) ?_ | with_reducible refine Rx_rd (g_now hw) ?_ | with_reducible refine Rx_rd (g_sort hw (by first | assumption | omega)) ?_ | with_reducible refine Rx_rd (g_room hw (by first | assumption | omega)) ?_ | with_reducible refine Rx_rd (g_stops hw (by first | assumption | omega)) ?_ | with_reducible refine Rx_rd (g_canc hw (by first | assumption | omega)) ?_ | with_reducible refine Rx_rd (g_sta hw (by first | assumption | omega) (by first | assumption | omega)) ?_ | with_reducible refine Rx_rd (g_min hw (by first | assumption | omega) (by first | assumption | omega)) ?_ | with_reducible refine Rx_rd (g_load hw (by first | assumption | omega) (by first | assumption | omega)) ?_ | with_reducible refine Rx_rd (g_from hw (by first | assumption | omega)) ?_ | with_reducible refine Rx_rd (g_wfrom hw (by first | assumption | omega)) ?_ | with_reducible refine Rx_rd (g_ready hw (by first | assumption | omega)) ?_ | with_reducible refine Rx_rd (g_to hw (by first | assumption | omega)) ?_ | with_reducible refine Rx_rd (g_wto hw (by first | assumption | omega)) ?_ | with_reducible refine Rx_rd (g_due hw (by first | assumption | omega)) ?_ | with_reducible refine Rx_rd (g_many hw (by first | assumption | omega)) ?_ | with_reducible refine Rx_rd (g_had hw (by first | assumption | omega)) ?_ | with_reducible refine Rx_rd (g_there hw (by first | assumption | omega)) ?_ | with_reducible refine Rx_rd (g_stands hw (by first | assumption | omega)) ?_ | with_reducible refine Rx_rd (g_since hw (by first | assumption | omega)) ?_ | with_reducible refine Rx_rd (g_off hw (by first | assumption | omega)) ?_ | with_reducible refine Rx_rd (g_leg hw (by first | assumption | omega) (by first | assumption | omega)) ?_ | with_reducible refine Rx_rd (g_days hw (by first | assumption | omega)) ?_ | with_reducible refine Rx_rd (g_earl hw (by first | assumption | omega) (by first | assumption | omega)) ?_ | with_reducible refine Rx_rd (g_late hw (by first | assumption | omega) (by first | assumption | omega)) ?_ | with_reducible refine Rx_rd (g_marks hw (by first | assumption | omega)) ?_ | with_reducible refine Rx_rd (h_code hw) ?_ | with_reducible refine Rx_rd (h_now hw) ?_ | with_reducible refine Rx_rd (h_st hw) ?_ | with_reducible refine Rx_rd (h_tr hw) ?_ | with_reducible refine Rx_rd (h_bx hw) ?_ | with_reducible refine Rx_rd (h_ca hw) ?_ | with_reducible refine Rx_rd (h_sort hw (by first | assumption | omega)) ?_ | with_reducible refine Rx_rd (h_room hw (by first | assumption | omega)) ?_ | with_reducible refine Rx_rd (h_stops hw (by first | assumption | omega)) ?_ | with_reducible refine Rx_rd (h_sta hw (by first | assumption | omega) (by first | assumption | omega)) ?_ | with_reducible refine Rx_rd (h_min hw (by first | assumption | omega) (by first | assumption | omega)) ?_ | with_reducible refine Rx_rd (h_load hw (by first | assumption | omega) (by first | assumption | omega)) ?_ | with_reducible refine Rx_rd (h_days hw (by first | assumption | omega)) ?_ | with_reducible refine Rx_rd (h_canc hw (by first | assumption | omega)) ?_ | with_reducible refine Rx_rd (h_home hw (by first | assumption | omega)) ?_ | with_reducible refine Rx_rd (h_walk hw (by first | assumption | omega)) ?_ | with_reducible refine Rx_rd (h_ready hw (by first | assumption | omega)) ?_ | with_reducible refine Rx_rd (h_desk hw (by first | assumption | omega)) ?_ | with_reducible refine Rx_rd (h_walkT hw (by first | assumption | omega)) ?_ | with_reducible refine Rx_rd (h_due hw (by first | assumption | omega)) ?_ | with_reducible refine Rx_rd (h_rback hw (by first | assumption | omega)) ?_ | with_reducible refine Rx_rd (h_emp hw (by first | assumption | omega)) ?_ | with_reducible refine Rx_rd (h_had hw (by first | assumption | omega)) ?_ | with_reducible refine Rx_rd (h_has hw (by first | assumption | omega)) ?_ | with_reducible refine Rx_rd (h_many hw (by first | assumption | omega)) ?_ | with_reducible refine Rx_rd (h_stands hw (by first | assumption | omega)) ?_ | with_reducible refine Rx_rd (h_since hw (by first | assumption | omega) (by first | assumption | omega)) ?_ | with_reducible refine Rx_rd (h_legT hw (by first | assumption | omega) (by first | assumption | omega)) ?_ | with_reducible refine Rx_rd (h_legN hw (by first | assumption | omega) (by first | assumption | omega)) ?_ | with_reducible refine Rx_rd (h_legF hw (by first | assumption | omega) (by first | assumption | omega)) ?_ | with_reducible refine Rx_rd (h_early hw (by first | assumption | omega)) ?_ | with_reducible refine Rx_rd (h_few hw (by first | assumption | omega)) ?_ | with_reducible refine Rx_rd (h_bT hw) ?_ | with_reducible refine Rx_rd (h_bL hw) ?_ | with_reducible refine Rx_rd (h_bt hw) ?_ | with_reducible refine Rx_rd (h_bon hw) ?_ | with_reducible refine Rx_rd (h_boff hw) ?_ | with_reducible refine Rx_rd (h_gives hw (by first | assumption | omega)) ?_ | with_reducible refine Rx_rd (g_sz0 hw) ?_ | with_reducible refine Rx_rd (g_sz1 hw) ?_ | with_reducible refine Rx_rd (g_gt0 hw (by first | assumption | omega)) ?_ | with_reducible refine Rx_rd (g_gt1 hw (by first | assumption | omega)) ?_ | with_reducible refine Rx_rd (r_sortedAt hw (by first | assumption | omega) (by first | assumption | omega) (by first | assumption | omega)) ?_ | with_reducible refine Rx_rd (r_isFull hw (by first | assumption | omega) (by first | assumption | omega)) ?_ | with_reducible refine Rx_rd (r_stands hw wf (by first | assumption | omega)) ?_ | with_reducible refine Rx_rd (r_hasWay hw wf (by first | assumption | omega)) ?_ | with_reducible refine Rx_rd (r_arrivalY hw wf (by first | assumption | omega) (by first | assumption | omega)) ?_ | with_reducible refine Rx_rd (r_arrivedBy hw wf (by first | assumption | omega) (by first | assumption | omega)) ?_ | with_reducible refine Rx_rd (r_goneBy hw wf (by first | assumption | omega) (by first | assumption | omega)) ?_ | with_reducible refine Rx_rd (r_isLate hw wf (by first | assumption | omega)) ?_ | with_reducible refine Rx_rd (r_thereBy hw wf (by first | assumption | omega) (by first | assumption | omega)) ?_ | with_reducible refine Rx_rd (r_current hw (by first | assumption | omega)) ?_ | with_reducible refine Rx_rd (r_isEmpty hw (by first | assumption | omega)) ?_ | with_reducible refine Rx_rd (r_legNumber hw (by first | assumption | omega) (by first | assumption | omega)) ?_ | with_reducible refine Rx_rd (r_ledLegs hw wf (by first | assumption | omega)) ?_ | with_reducible refine Rx_rd (r_beginning hw wf (by first | assumption | omega)) ?_ | with_reducible refine Rx_rd (r_mayFollow hw wf (by first | assumption | omega) (by first | assumption | omega) (by first | assumption | omega)) ?_ | with_reducible refine Rx_rd (r_beginsAfter hw wf (by first | assumption | omega) (by first | assumption | omega)) ?_ | with_reducible refine Rx_rd (r_node hw) ?_ | with_reducible refine Rx_rd (r_legAt hw) ?_ | with_reducible refine Rx_rd (r_Mway hw wt (by first | assumption | omega)) ?_ | with_reducible refine Rx_rd (r_Mto hw wt (by first | assumption | omega)) ?_ | with_reducible refine Rx_rd (r_Mfrom hw wt (by first | assumption | omega)) ?_ | with_reducible refine Rx_rd (r_Mready hw wt (by first | assumption | omega)) ?_ | with_reducible refine Rx_rd (r_Msorted hw wt (by first | assumption | omega)) ?_ | with_reducible refine Rx_rd (r_Mbehind hw wt (by first | assumption | omega) (by first | assumption | omega) (by first | assumption | omega)) ?_ | with_reducible refine Rx_rd (r_Mthere hw wt (by first | assumption | omega)) ?_ | with_reducible refine Rx_rd (r_Mfree hw (by first | assumption | omega) (by first | assumption | omega) (by first | assumption | omega)) ?_ | with_reducible refine Rx_rd (r_Mgone hw wt (by first | assumption | omega)) ?_ | with_reducible refine Rx_rd (r_Mlate hw wt (by first | assumption | omega)) ?_))
  refine Rx_pos (by rw [nI_ltI (by omega) (by omega)]; exact hn) ?_
  (repeat (first | with_reducible refine Rx_assoc ?_ | (simp (disch := omega) only [nL_0, nL_1, nL_2, nL_3, nL_4, nL_5, nL_6, nL_7, nL_10, nL_16, nL_31, nL_40, nL_60, nL_120, nL_160, nL_1439, nL_1000000, nL_10000000, nL_268435456, nI_clamp, nI_1, nI_add, nI_sub, nI_pred, nI_mulI]) | with_reducible refine Rx_rd (g_row3 (by first | assumption | omega)) ?_ | with_reducible refine Rx_rd (g_row4 (by first | assumption | omega)) ?_ | with_reducible refine Rx_rd (g_chk0 hw) ?_ | with_reducible refine Rx_rd (g_chk01 hw) ?_ | with_reducible refine Rx_rd (g_chk1 hw (by first | assumption | omega)) ?_ | with_reducible refine Rx_rd (g_chk2 hw) ?_ | with_reducible refine Rx_rd (g_chk3 hw) ?_ | with_reducible refine Rx_rd (g_chk4 hw (by first | assumption | omega)) ?_ | with_reducible refine Rx_rd (g_chk5 hw (by first | assumption | omega)) ?_ | with_reducible refine Rx_rd (g_chk6 hw) ?_ | with_reducible refine Rx_rd (g_chk7 hw) ?_ | with_reducible refine Rx_rd (g_gO0 hw (by first | assumption | omega)) ?_ | with_reducible refine Rx_rd (g_gB hw (by first | assumption | omega) (by first | assumption | omega)) ?_ | with_reducible refine Rx_rd (g_st hw) ?_ | with_reducible refine Rx_rd (g_ca hw) ?_ | with_reducible refine Rx_rd (g_now hw) ?_ | with_reducible refine Rx_rd (g_sort hw (by first | assumption | omega)) ?_ | with_reducible refine Rx_rd (g_room hw (by first | assumption | omega)) ?_ | with_reducible refine Rx_rd (g_stops hw (by first | assumption | omega)) ?_ | with_reducible refine Rx_rd (g_canc hw (by first | assumption | omega)) ?_ | with_reducible refine Rx_rd (g_sta hw (by first | assumption | omega) (by first | assumption | omega)) ?_ | with_reducible refine Rx_rd (g_min hw (by first | assumption | omega) (by first | assumption | omega)) ?_ | with_reducible refine Rx_rd (g_load hw (by first | assumption | omega) (by first | assumption | omega)) ?_ | with_reducible refine Rx_rd (g_from hw (by first | assumption | omega)) ?_ | with_reducible refine Rx_rd (g_wfrom hw (by first | assumption | omega)) ?_ | with_reducible refine Rx_rd (g_ready hw (by first | assumption | omega)) ?_ | with_reducible refine Rx_rd (g_to hw (by first | assumption | omega)) ?_ | with_reducible refine Rx_rd (g_wto hw (by first | assumption | omega)) ?_ | with_reducible refine Rx_rd (g_due hw (by first | assumption | omega)) ?_ | with_reducible refine Rx_rd (g_many hw (by first | assumption | omega)) ?_ | with_reducible refine Rx_rd (g_had hw (by first | assumption | omega)) ?_ | with_reducible refine Rx_rd (g_there hw (by first | assumption | omega)) ?_ | with_reducible refine Rx_rd (g_stands hw (by first | assumption | omega)) ?_ | with_reducible refine Rx_rd (g_since hw (by first | assumption | omega)) ?_ | with_reducible refine Rx_rd (g_off hw (by first | assumption | omega)) ?_ | with_reducible refine Rx_rd (g_leg hw (by first | assumption | omega) (by first | assumption | omega)) ?_ | with_reducible refine Rx_rd (g_days hw (by first | assumption | omega)) ?_ | with_reducible refine Rx_rd (g_earl hw (by first | assumption | omega) (by first | assumption | omega)) ?_ | with_reducible refine Rx_rd (g_late hw (by first | assumption | omega) (by first | assumption | omega)) ?_ | with_reducible refine Rx_rd (g_marks hw (by first | assumption | omega)) ?_ | with_reducible refine Rx_rd (h_code hw) ?_ | with_reducible refine Rx_rd (h_now hw) ?_ | with_reducible refine Rx_rd (h_st hw) ?_ | with_reducible refine Rx_rd (h_tr hw) ?_ | with_reducible refine Rx_rd (h_bx hw) ?_ | with_reducible refine Rx_rd (h_ca hw) ?_ | with_reducible refine Rx_rd (h_sort hw (by first | assumption | omega)) ?_ | with_reducible refine Rx_rd (h_room hw (by first | assumption | omega)) ?_ | with_reducible refine Rx_rd (h_stops hw (by first | assumption | omega)) ?_ | with_reducible refine Rx_rd (h_sta hw (by first | assumption | omega) (by first | assumption | omega)) ?_ | with_reducible refine Rx_rd (h_min hw (by first | assumption | omega) (by first | assumption | omega)) ?_ | with_reducible refine Rx_rd (h_load hw (by first | assumption | omega) (by first | assumption | omega)) ?_ | with_reducible refine Rx_rd (h_days hw (by first | assumption | omega)) ?_ | with_reducible refine Rx_rd (h_canc hw (by first | assumption | omega)) ?_ | with_reducible refine Rx_rd (h_home hw (by first | assumption | omega)) ?_ | with_reducible refine Rx_rd (h_walk hw (by first | assumption | omega)) ?_ | with_reducible refine Rx_rd (h_ready hw (by first | assumption | omega)) ?_ | with_reducible refine Rx_rd (h_desk hw (by first | assumption | omega)) ?_ | with_reducible refine Rx_rd (h_walkT hw (by first | assumption | omega)) ?_ | with_reducible refine Rx_rd (h_due hw (by first | assumption | omega)) ?_ | with_reducible refine Rx_rd (h_rback hw (by first | assumption | omega)) ?_ | with_reducible refine Rx_rd (h_emp hw (by first | assumption | omega)) ?_ | with_reducible refine Rx_rd (h_had hw (by first | assumption | omega)) ?_ | with_reducible refine Rx_rd (h_has hw (by first | assumption | omega)) ?_ | with_reducible refine Rx_rd (h_many hw (by first | assumption | omega)) ?_ | with_reducible refine Rx_rd (h_stands hw (by first | assumption | omega)) ?_ | with_reducible refine Rx_rd (h_since hw (by first | assumption | omega) (by first | assumption | omega)) ?_ | with_reducible refine Rx_rd (h_legT hw (by first | assumption | omega) (by first | assumption | omega)) ?_ | with_reducible refine Rx_rd (h_legN hw (by first | assumption | omega) (by first | assumption | omega)) ?_ | with_reducible refine Rx_rd (h_legF hw (by first | assumption | omega) (by first | assumption | omega)) ?_ | with_reducible refine Rx_rd (h_early hw (by first | assumption | omega)) ?_ | with_reducible refine Rx_rd (h_few hw (by first | assumption | omega)) ?_ | with_reducible refine Rx_rd (h_bT hw) ?_ | with_reducible refine Rx_rd (h_bL hw) ?_ | with_reducible refine Rx_rd (h_bt hw) ?_ | with_reducible refine Rx_rd (h_bon hw) ?_ | with_reducible refine Rx_rd (h_boff hw) ?_ | with_reducible refine Rx_rd (h_gives hw (by first | assumption | omega)) ?_ | with_reducible refine Rx_rd (g_sz0 hw) ?_ | with_reducible refine Rx_rd (g_sz1 hw) ?_ | with_reducible refine Rx_rd (g_gt0 hw (by first | assumption | omega)) ?_ | with_reducible refine Rx_rd (g_gt1 hw (by first | assumption | omega)) ?_ | with_reducible refine Rx_rd (r_sortedAt hw (by first | assumption | omega) (by first | assumption | omega) (by first | assumption | omega)) ?_ | with_reducible refine Rx_rd (r_isFull hw (by first | assumption | omega) (by first | assumption | omega)) ?_ | with_reducible refine Rx_rd (r_stands hw wf (by first | assumption | omega)) ?_ | with_reducible refine Rx_rd (r_hasWay hw wf (by first | assumption | omega)) ?_ | with_reducible refine Rx_rd (r_arrivalY hw wf (by first | assumption | omega) (by first | assumption | omega)) ?_ | with_reducible refine Rx_rd (r_arrivedBy hw wf (by first | assumption | omega) (by first | assumption | omega)) ?_ | with_reducible refine Rx_rd (r_goneBy hw wf (by first | assumption | omega) (by first | assumption | omega)) ?_ | with_reducible refine Rx_rd (r_isLate hw wf (by first | assumption | omega)) ?_ | with_reducible refine Rx_rd (r_thereBy hw wf (by first | assumption | omega) (by first | assumption | omega)) ?_ | with_reducible refine Rx_rd (r_current hw (by first | assumption | omega)) ?_ | with_reducible refine Rx_rd (r_isEmpty hw (by first | assumption | omega)) ?_ | with_reducible refine Rx_rd (r_legNumber hw (by first | assumption | omega) (by first | assumption | omega)) ?_ | with_reducible refine Rx_rd (r_ledLegs hw wf (by first | assumption | omega)) ?_ | with_reducible refine Rx_rd (r_beginning hw wf (by first | assumption | omega)) ?_ | with_reducible refine Rx_rd (r_mayFollow hw wf (by first | assumption | omega) (by first | assumption | omega) (by first | assumption | omega)) ?_ | with_reducible refine Rx_rd (r_beginsAfter hw wf (by first | assumption | omega) (by first | assumption | omega)) ?_ | with_reducible refine Rx_rd (r_node hw) ?_ | with_reducible refine Rx_rd (r_legAt hw) ?_ | with_reducible refine Rx_rd (r_Mway hw wt (by first | assumption | omega)) ?_ | with_reducible refine Rx_rd (r_Mto hw wt (by first | assumption | omega)) ?_ | with_reducible refine Rx_rd (r_Mfrom hw wt (by first | assumption | omega)) ?_ | with_reducible refine Rx_rd (r_Mready hw wt (by first | assumption | omega)) ?_ | with_reducible refine Rx_rd (r_Msorted hw wt (by first | assumption | omega)) ?_ | with_reducible refine Rx_rd (r_Mbehind hw wt (by first | assumption | omega) (by first | assumption | omega) (by first | assumption | omega)) ?_ | with_reducible refine Rx_rd (r_Mthere hw wt (by first | assumption | omega)) ?_ | with_reducible refine Rx_rd (r_Mfree hw (by first | assumption | omega) (by first | assumption | omega) (by first | assumption | omega)) ?_ | with_reducible refine Rx_rd (r_Mgone hw wt (by first | assumption | omega)) ?_ | with_reducible refine Rx_rd (r_Mlate hw wt (by first | assumption | omega)) ?_))
  exact Rx_rt ⟨rfl, rfl⟩
theorem q_trainOfN (wf : WF σ) (hw : Wd σ κ τ μ z w) {x : Int32} (hx : nnT σ x) : p_X5_trainOf x w = some (.inr eN, (w.1 + 1, w.2.1 + 6, w.2.2)) := by
  have := wf.tr
  unfold p_X5_trainOf p_X5_trainOf_b18
  rcases hx with h | ⟨n, h1, h2, rfl⟩
  · rw [if_pos h]; rfl
  · rw [if_neg (nI_pos h1), pbnd_eq (g_chk6 hw), pbnd_eq (g_chk3 hw), pbnd_eq (g_siz0 hw), if_neg (by rw [nI_ltI (by omega) (by omega)]; omega)]; rfl
theorem q_boxOf (wf : WF σ) (hw : Wd σ κ τ μ z w) {n : Nat} (hn : n < σ 0 3 0) : p_X5_boxOf (nI n) w = some (.inl n, w) := by
  have := wf.bx
  refine Rx_un ?_
  unfold p_X5_boxOf
  refine Rx_neg (nI_pos (by omega)) ?_
  (repeat (first | with_reducible refine Rx_assoc ?_ | (simp (disch := omega) only [nL_0, nL_1, nL_2, nL_3, nL_4, nL_5, nL_6, nL_7, nL_10, nL_16, nL_31, nL_40, nL_60, nL_120, nL_160, nL_1439, nL_1000000, nL_10000000, nL_268435456, nI_clamp, nI_1, nI_add, nI_sub, nI_pred, nI_mulI]) | with_reducible refine Rx_rd (g_row3 (by first | assumption | omega)) ?_ | with_reducible refine Rx_rd (g_row4 (by first | assumption | omega)) ?_ | with_reducible refine Rx_rd (g_chk0 hw) ?_ | with_reducible refine Rx_rd (g_chk01 hw) ?_ | with_reducible refine Rx_rd (g_chk1 hw (by first | assumption | omega)) ?_ | with_reducible refine Rx_rd (g_chk2 hw) ?_ | with_reducible refine Rx_rd (g_chk3 hw) ?_ | with_reducible refine Rx_rd (g_chk4 hw (by first | assumption | omega)) ?_ | with_reducible refine Rx_rd (g_chk5 hw (by first | assumption | omega)) ?_ | with_reducible refine Rx_rd (g_chk6 hw) ?_ | with_reducible refine Rx_rd (g_chk7 hw) ?_ | with_reducible refine Rx_rd (g_gO0 hw (by first | assumption | omega)) ?_ | with_reducible refine Rx_rd (g_gB hw (by first | assumption | omega) (by first | assumption | omega)) ?_ | with_reducible refine Rx_rd (g_st hw) ?_ | with_reducible refine Rx_rd (g_ca hw) ?_ | with_reducible refine Rx_rd (g_now hw) ?_ | with_reducible refine Rx_rd (g_sort hw (by first | assumption | omega)) ?_ | with_reducible refine Rx_rd (g_room hw (by first | assumption | omega)) ?_ | with_reducible refine Rx_rd (g_stops hw (by first | assumption | omega)) ?_ | with_reducible refine Rx_rd (g_canc hw (by first | assumption | omega)) ?_ | with_reducible refine Rx_rd (g_sta hw (by first | assumption | omega) (by first | assumption | omega)) ?_ | with_reducible refine Rx_rd (g_min hw (by first | assumption | omega) (by first | assumption | omega)) ?_ | with_reducible refine Rx_rd (g_load hw (by first | assumption | omega) (by first | assumption | omega)) ?_ | with_reducible refine Rx_rd (g_from hw (by first | assumption | omega)) ?_ | with_reducible refine Rx_rd (g_wfrom hw (by first | assumption | omega)) ?_ | with_reducible refine Rx_rd (g_ready hw (by first | assumption | omega)) ?_ | with_reducible refine Rx_rd (g_to hw (by first | assumption | omega)) ?_ | with_reducible refine Rx_rd (g_wto hw (by first | assumption | omega)) ?_ | with_reducible refine Rx_rd (g_due hw (by first | assumption | omega)) ?_ | with_reducible refine Rx_rd (g_many hw (by first | assumption | omega)) ?_ | with_reducible refine Rx_rd (g_had hw (by first | assumption | omega)) ?_ | with_reducible refine Rx_rd (g_there hw (by first | assumption | omega)) ?_ | with_reducible refine Rx_rd (g_stands hw (by first | assumption | omega)) ?_ | with_reducible refine Rx_rd (g_since hw (by first | assumption | omega)) ?_ | with_reducible refine Rx_rd (g_off hw (by first | assumption | omega)) ?_ | with_reducible refine Rx_rd (g_leg hw (by first | assumption | omega) (by first | assumption | omega)) ?_ | with_reducible refine Rx_rd (g_days hw (by first | assumption | omega)) ?_ | with_reducible refine Rx_rd (g_earl hw (by first | assumption | omega) (by first | assumption | omega)) ?_ | with_reducible refine Rx_rd (g_late hw (by first | assumption | omega) (by first | assumption | omega)) ?_ | with_reducible refine Rx_rd (g_marks hw (by first | assumption | omega)) ?_ | with_reducible refine Rx_rd (h_code hw) ?_ | with_reducible refine Rx_rd (h_now hw) ?_ | with_reducible refine Rx_rd (h_st hw) ?_ | with_reducible refine Rx_rd (h_tr hw) ?_ | with_reducible refine Rx_rd (h_bx hw) ?_ | with_reducible refine Rx_rd (h_ca hw) ?_ | with_reducible refine Rx_rd (h_sort hw (by first | assumption | omega)) ?_ | with_reducible refine Rx_rd (h_room hw (by first | assumption | omega)) ?_ | with_reducible refine Rx_rd (h_stops hw (by first | assumption | omega)) ?_ | with_reducible refine Rx_rd (h_sta hw (by first | assumption | omega) (by first | assumption | omega)) ?_ | with_reducible refine Rx_rd (h_min hw (by first | assumption | omega) (by first | assumption | omega)) ?_ | with_reducible refine Rx_rd (h_load hw (by first | assumption | omega) (by first | assumption | omega)) ?_ | with_reducible refine Rx_rd (h_days hw (by first | assumption | omega)) ?_ | with_reducible refine Rx_rd (h_canc hw (by first | assumption | omega)) ?_ | with_reducible refine Rx_rd (h_home hw (by first | assumption | omega)) ?_ | with_reducible refine Rx_rd (h_walk hw (by first | assumption | omega)) ?_ | with_reducible refine Rx_rd (h_ready hw (by first | assumption | omega)) ?_ | with_reducible refine Rx_rd (h_desk hw (by first | assumption | omega)) ?_ | with_reducible refine Rx_rd (h_walkT hw (by first | assumption | omega)) ?_ | with_reducible refine Rx_rd (h_due hw (by first | assumption | omega)) ?_ | with_reducible refine Rx_rd (h_rback hw (by first | assumption | omega)) ?_ | with_reducible refine Rx_rd (h_emp hw (by first | assumption | omega)) ?_ | with_reducible refine Rx_rd (h_had hw (by first | assumption | omega)) ?_ | with_reducible refine Rx_rd (h_has hw (by first | assumption | omega)) ?_ | with_reducible refine Rx_rd (h_many hw (by first | assumption | omega)) ?_ | with_reducible refine Rx_rd (h_stands hw (by first | assumption | omega)) ?_ | with_reducible refine Rx_rd (h_since hw (by first | assumption | omega) (by first | assumption | omega)) ?_ | with_reducible refine Rx_rd (h_legT hw (by first | assumption | omega) (by first | assumption | omega)) ?_ | with_reducible refine Rx_rd (h_legN hw (by first | assumption | omega) (by first | assumption | omega)) ?_ | with_reducible refine Rx_rd (h_legF hw (by first | assumption | omega) (by first | assumption | omega)) ?_ | with_reducible refine Rx_rd (h_early hw (by first | assumption | omega)) ?_ | with_reducible refine Rx_rd (h_few hw (by first | assumption | omega)) ?_ | with_reducible refine Rx_rd (h_bT hw) ?_ | with_reducible refine Rx_rd (h_bL hw) ?_ | with_reducible refine Rx_rd (h_bt hw) ?_ | with_reducible refine Rx_rd (h_bon hw) ?_ | with_reducible refine Rx_rd (h_boff hw) ?_ | with_reducible refine Rx_rd (h_gives hw (by first | assumption | omega)) ?_ | with_reducible refine Rx_rd (g_sz0 hw) ?_ | with_reducible refine Rx_rd (g_sz1 hw) ?_ | with_reducible refine Rx_rd (g_gt0 hw (by first | assumption | omega)) ?_ | with_reducible refine Rx_rd (g_gt1 hw (by first | assumption | omega)) ?_ | with_reducible refine Rx_rd (r_sortedAt hw (by first | assumption | omega) (by first | assumption | omega) (by first | assumption | omega)) ?_ | with_reducible refine Rx_rd (r_isFull hw (by first | assumption | omega) (by first | assumption | omega)) ?_ | with_reducible refine Rx_rd (r_stands hw wf (by first | assumption | omega)) ?_ | with_reducible refine Rx_rd (r_hasWay hw wf (by first | assumption | omega)) ?_ | with_reducible refine Rx_rd (r_arrivalY hw wf (by first | assumption | omega) (by first | assumption | omega)) ?_ | with_reducible refine Rx_rd (r_arrivedBy hw wf (by first | assumption | omega) (by first | assumption | omega)) ?_ | with_reducible refine Rx_rd (r_goneBy hw wf (by first | assumption | omega) (by first | assumption | omega)) ?_ | with_reducible refine Rx_rd (r_isLate hw wf (by first | assumption | omega)) ?_ | with_reducible refine Rx_rd (r_thereBy hw wf (by first | assumption | omega) (by first | assumption | omega)) ?_ | with_reducible refine Rx_rd (r_current hw (by first | assumption | omega)) ?_ | with_reducible refine Rx_rd (r_isEmpty hw (by first | assumption | omega)) ?_ | with_reducible refine Rx_rd (r_legNumber hw (by first | assumption | omega) (by first | assumption | omega)) ?_ | with_reducible refine Rx_rd (r_ledLegs hw wf (by first | assumption | omega)) ?_ | with_reducible refine Rx_rd (r_beginning hw wf (by first | assumption | omega)) ?_ | with_reducible refine Rx_rd (r_mayFollow hw wf (by first | assumption | omega) (by first | assumption | omega) (by first | assumption | omega)) ?_ | with_reducible refine Rx_rd (r_beginsAfter hw wf (by first | assumption | omega) (by first | assumption | omega)) ?_ | with_reducible refine Rx_rd (r_node hw) ?_ | with_reducible refine Rx_rd (r_legAt hw) ?_ | with_reducible refine Rx_rd (r_Mway hw wt (by first | assumption | omega)) ?_ | with_reducible refine Rx_rd (r_Mto hw wt (by first | assumption | omega)) ?_ | with_reducible refine Rx_rd (r_Mfrom hw wt (by first | assumption | omega)) ?_ | with_reducible refine Rx_rd (r_Mready hw wt (by first | assumption | omega)) ?_ | with_reducible refine Rx_rd (r_Msorted hw wt (by first | assumption | omega)) ?_ | with_reducible refine Rx_rd (r_Mbehind hw wt (by first | assumption | omega) (by first | assumption | omega) (by first | assumption | omega)) ?_ | with_reducible refine Rx_rd (r_Mthere hw wt (by first | assumption | omega)) ?_ | with_reducible refine Rx_rd (r_Mfree hw (by first | assumption | omega) (by first | assumption | omega) (by first | assumption | omega)) ?_ | with_reducible refine Rx_rd (r_Mgone hw wt (by first | assumption | omega)) ?_ | with_reducible refine Rx_rd (r_Mlate hw wt (by first | assumption | omega)) ?_))
  refine Rx_pos (by rw [nI_ltI (by omega) (by omega)]; exact hn) ?_
  (repeat (first | with_reducible refine Rx_assoc ?_ | (simp (disch := omega) only [nL_0, nL_1, nL_2, nL_3, nL_4, nL_5, nL_6, nL_7, nL_10, nL_16, nL_31, nL_40, nL_60, nL_120, nL_160, nL_1439, nL_1000000, nL_10000000, nL_268435456, nI_clamp, nI_1, nI_add, nI_sub, nI_pred, nI_mulI]) | with_reducible refine Rx_rd (g_row3 (by first | assumption | omega)) ?_ | with_reducible refine Rx_rd (g_row4 (by first | assumption | omega)) ?_ | with_reducible refine Rx_rd (g_chk0 hw) ?_ | with_reducible refine Rx_rd (g_chk01 hw) ?_ | with_reducible refine Rx_rd (g_chk1 hw (by first | assumption | omega)) ?_ | with_reducible refine Rx_rd (g_chk2 hw) ?_ | with_reducible refine Rx_rd (g_chk3 hw) ?_ | with_reducible refine Rx_rd (g_chk4 hw (by first | assumption | omega)) ?_ | with_reducible refine Rx_rd (g_chk5 hw (by first | assumption | omega)) ?_ | with_reducible refine Rx_rd (g_chk6 hw) ?_ | with_reducible refine Rx_rd (g_chk7 hw) ?_ | with_reducible refine Rx_rd (g_gO0 hw (by first | assumption | omega)) ?_ | with_reducible refine Rx_rd (g_gB hw (by first | assumption | omega) (by first | assumption | omega)) ?_ | with_reducible refine Rx_rd (g_st hw) ?_ | with_reducible refine Rx_rd (g_ca hw) ?_ | with_reducible refine Rx_rd (g_now hw) ?_ | with_reducible refine Rx_rd (g_sort hw (by first | assumption | omega)) ?_ | with_reducible refine Rx_rd (g_room hw (by first | assumption | omega)) ?_ | with_reducible refine Rx_rd (g_stops hw (by first | assumption | omega)) ?_ | with_reducible refine Rx_rd (g_canc hw (by first | assumption | omega)) ?_ | with_reducible refine Rx_rd (g_sta hw (by first | assumption | omega) (by first | assumption | omega)) ?_ | with_reducible refine Rx_rd (g_min hw (by first | assumption | omega) (by first | assumption | omega)) ?_ | with_reducible refine Rx_rd (g_load hw (by first | assumption | omega) (by first | assumption | omega)) ?_ | with_reducible refine Rx_rd (g_from hw (by first | assumption | omega)) ?_ | with_reducible refine Rx_rd (g_wfrom hw (by first | assumption | omega)) ?_ | with_reducible refine Rx_rd (g_ready hw (by first | assumption | omega)) ?_ | with_reducible refine Rx_rd (g_to hw (by first | assumption | omega)) ?_ | with_reducible refine Rx_rd (g_wto hw (by first | assumption | omega)) ?_ | with_reducible refine Rx_rd (g_due hw (by first | assumption | omega)) ?_ | with_reducible refine Rx_rd (g_many hw (by first | assumption | omega)) ?_ | with_reducible refine Rx_rd (g_had hw (by first | assumption | omega)) ?_ | with_reducible refine Rx_rd (g_there hw (by first | assumption | omega)) ?_ | with_reducible refine Rx_rd (g_stands hw (by first | assumption | omega)) ?_ | with_reducible refine Rx_rd (g_since hw (by first | assumption | omega)) ?_ | with_reducible refine Rx_rd (g_off hw (by first | assumption | omega)) ?_ | with_reducible refine Rx_rd (g_leg hw (by first | assumption | omega) (by first | assumption | omega)) ?_ | with_reducible refine Rx_rd (g_days hw (by first | assumption | omega)) ?_ | with_reducible refine Rx_rd (g_earl hw (by first | assumption | omega) (by first | assumption | omega)) ?_ | with_reducible refine Rx_rd (g_late hw (by first | assumption | omega) (by first | assumption | omega)) ?_ | with_reducible refine Rx_rd (g_marks hw (by first | assumption | omega)) ?_ | with_reducible refine Rx_rd (h_code hw) ?_ | with_reducible refine Rx_rd (h_now hw) ?_ | with_reducible refine Rx_rd (h_st hw) ?_ | with_reducible refine Rx_rd (h_tr hw) ?_ | with_reducible refine Rx_rd (h_bx hw) ?_ | with_reducible refine Rx_rd (h_ca hw) ?_ | with_reducible refine Rx_rd (h_sort hw (by first | assumption | omega)) ?_ | with_reducible refine Rx_rd (h_room hw (by first | assumption | omega)) ?_ | with_reducible refine Rx_rd (h_stops hw (by first | assumption | omega)) ?_ | with_reducible refine Rx_rd (h_sta hw (by first | assumption | omega) (by first | assumption | omega)) ?_ | with_reducible refine Rx_rd (h_min hw (by first | assumption | omega) (by first | assumption | omega)) ?_ | with_reducible refine Rx_rd (h_load hw (by first | assumption | omega) (by first | assumption | omega)) ?_ | with_reducible refine Rx_rd (h_days hw (by first | assumption | omega)) ?_ | with_reducible refine Rx_rd (h_canc hw (by first | assumption | omega)) ?_ | with_reducible refine Rx_rd (h_home hw (by first | assumption | omega)) ?_ | with_reducible refine Rx_rd (h_walk hw (by first | assumption | omega)) ?_ | with_reducible refine Rx_rd (h_ready hw (by first | assumption | omega)) ?_ | with_reducible refine Rx_rd (h_desk hw (by first | assumption | omega)) ?_ | with_reducible refine Rx_rd (h_walkT hw (by first | assumption | omega)) ?_ | with_reducible refine Rx_rd (h_due hw (by first | assumption | omega)) ?_ | with_reducible refine Rx_rd (h_rback hw (by first | assumption | omega)) ?_ | with_reducible refine Rx_rd (h_emp hw (by first | assumption | omega)) ?_ | with_reducible refine Rx_rd (h_had hw (by first | assumption | omega)) ?_ | with_reducible refine Rx_rd (h_has hw (by first | assumption | omega)) ?_ | with_reducible refine Rx_rd (h_many hw (by first | assumption | omega)) ?_ | with_reducible refine Rx_rd (h_stands hw (by first | assumption | omega)) ?_ | with_reducible refine Rx_rd (h_since hw (by first | assumption | omega) (by first | assumption | omega)) ?_ | with_reducible refine Rx_rd (h_legT hw (by first | assumption | omega) (by first | assumption | omega)) ?_ | with_reducible refine Rx_rd (h_legN hw (by first | assumption | omega) (by first | assumption | omega)) ?_ | with_reducible refine Rx_rd (h_legF hw (by first | assumption | omega) (by first | assumption | omega)) ?_ | with_reducible refine Rx_rd (h_early hw (by first | assumption | omega)) ?_ | with_reducible refine Rx_rd (h_few hw (by first | assumption | omega)) ?_ | with_reducible refine Rx_rd (h_bT hw) ?_ | with_reducible refine Rx_rd (h_bL hw) ?_ | with_reducible refine Rx_rd (h_bt hw) ?_ | with_reducible refine Rx_rd (h_bon hw) ?_ | with_reducible refine Rx_rd (h_boff hw) ?_ | with_reducible refine Rx_rd (h_gives hw (by first | assumption | omega)) ?_ | with_reducible refine Rx_rd (g_sz0 hw) ?_ | with_reducible refine Rx_rd (g_sz1 hw) ?_ | with_reducible refine Rx_rd (g_gt0 hw (by first | assumption | omega)) ?_ | with_reducible refine Rx_rd (g_gt1 hw (by first | assumption | omega)) ?_ | with_reducible refine Rx_rd (r_sortedAt hw (by first | assumption | omega) (by first | assumption | omega) (by first | assumption | omega)) ?_ | with_reducible refine Rx_rd (r_isFull hw (by first | assumption | omega) (by first | assumption | omega)) ?_ | with_reducible refine Rx_rd (r_stands hw wf (by first | assumption | omega)) ?_ | with_reducible refine Rx_rd (r_hasWay hw wf (by first | assumption | omega)) ?_ | with_reducible refine Rx_rd (r_arrivalY hw wf (by first | assumption | omega) (by first | assumption | omega)) ?_ | with_reducible refine Rx_rd (r_arrivedBy hw wf (by first | assumption | omega) (by first | assumption | omega)) ?_ | with_reducible refine Rx_rd (r_goneBy hw wf (by first | assumption | omega) (by first | assumption | omega)) ?_ | with_reducible refine Rx_rd (r_isLate hw wf (by first | assumption | omega)) ?_ | with_reducible refine Rx_rd (r_thereBy hw wf (by first | assumption | omega) (by first | assumption | omega)) ?_ | with_reducible refine Rx_rd (r_current hw (by first | assumption | omega)) ?_ | with_reducible refine Rx_rd (r_isEmpty hw (by first | assumption | omega)) ?_ | with_reducible refine Rx_rd (r_legNumber hw (by first | assumption | omega) (by first | assumption | omega)) ?_ | with_reducible refine Rx_rd (r_ledLegs hw wf (by first | assumption | omega)) ?_ | with_reducible refine Rx_rd (r_beginning hw wf (by first | assumption | omega)) ?_ | with_reducible refine Rx_rd (r_mayFollow hw wf (by first | assumption | omega) (by first | assumption | omega) (by first | assumption | omega)) ?_ | with_reducible refine Rx_rd (r_beginsAfter hw wf (by first | assumption | omega) (by first | assumption | omega)) ?_ | with_reducible refine Rx_rd (r_node hw) ?_ | with_reducible refine Rx_rd (r_legAt hw) ?_ | with_reducible refine Rx_rd (r_Mway hw wt (by first | assumption | omega)) ?_ | with_reducible refine Rx_rd (r_Mto hw wt (by first | assumption | omega)) ?_ | with_reducible refine Rx_rd (r_Mfrom hw wt (by first | assumption | omega)) ?_ | with_reducible refine Rx_rd (r_Mready hw wt (by first | assumption | omega)) ?_ | with_reducible refine Rx_rd (r_Msorted hw wt (by first | assumption | omega)) ?_ | with_reducible refine Rx_rd (r_Mbehind hw wt (by first | assumption | omega) (by first | assumption | omega) (by first | assumption | omega)) ?_ | with_reducible refine Rx_rd (r_Mthere hw wt (by first | assumption | omega)) ?_ | with_reducible refine Rx_rd (r_Mfree hw (by first | assumption | omega) (by first | assumption | omega) (by first | assumption | omega)) ?_ | with_reducible refine Rx_rd (r_Mgone hw wt (by first | assumption | omega)) ?_ | with_reducible refine Rx_rd (r_Mlate hw wt (by first | assumption | omega)) ?_))
  exact Rx_rt ⟨rfl, rfl⟩
theorem q_boxOfN (wf : WF σ) (hw : Wd σ κ τ μ z w) {x : Int32} (hx : nnB σ x) : p_X5_boxOf x w = some (.inr eN, (w.1 + 1, w.2.1 + 6, w.2.2)) := by
  have := wf.bx
  unfold p_X5_boxOf p_X5_boxOf_b15
  rcases hx with h | ⟨n, h1, h2, rfl⟩
  · rw [if_pos h]; rfl
  · rw [if_neg (nI_pos h1), pbnd_eq (g_chk6 hw), pbnd_eq (g_siz1 hw), if_neg (by rw [nI_ltI (by omega) (by omega)]; omega)]; rfl
theorem q_isT (hw : Wd σ κ τ μ z w) (wt : WF τ) {x : Int32} (hx : nnT τ x) : p_X6_isTrain x w = some (.inl 0, w) := by
  rcases hx with h | ⟨n, h1, h2, rfl⟩
  · exact q_isTrainN h
  · rw [q_isTrain hw wt h1, bI_f (by omega)]
theorem q_isTy (hw : Wd σ κ τ μ z w) (wt : WF τ) {n : Nat} (hn : n < τ 0 2 0) : p_X6_isTrain (nI n) w = some (.inl 1, w) := by
  have := wt.tr
  rw [q_isTrain hw wt (by omega), bI_t hn]
theorem q_isB (hw : Wd σ κ τ μ z w) (wt : WF τ) {x : Int32} (hx : nnB τ x) : p_X6_isBox x w = some (.inl 0, w) := by
  rcases hx with h | ⟨n, h1, h2, rfl⟩
  · exact q_isBoxN h
  · rw [q_isBox hw wt h1, bI_f (by omega)]
theorem q_isBy (hw : Wd σ κ τ μ z w) (wt : WF τ) {n : Nat} (hn : n < τ 0 3 0) : p_X6_isBox (nI n) w = some (.inl 1, w) := by
  have := wt.bx
  rw [q_isBox hw wt (by omega), bI_t hn]
theorem Rx_thrown {α β : Type} {m : PM β} {f : β → PM α} {Q : α → PS → Prop} {E : String → PS → Prop} {e : String} {w w' : PS} (h : m w = some (.inr e, w')) (he : E e w') : Rx (pbnd m f) w Q E := ⟨.inr e, w', pbnd_thr h, he⟩
/-! cancel -/
def canS (σ : SG) (t : Nat) : SG := us σ 4 t 0 1
theorem can_4 {t x y q : Nat} (h : x ≠ 4) : canS σ t x y q = σ x y q := if_neg (fun e => h e.1)
theorem can_srt {t a b : Nat} : srt (canS σ t) a b = srt σ a b := by
  unfold srt
  rw [can_4 (by decide), can_4 (by decide), can_4 (by decide)]
theorem INV3_can (hv : INV3 σ) {t : Nat} (ht : t < σ 0 2 0) : INV3 (canS σ t) := by
  have wf := hv.1.1
  have c4 : ∀ y, canS σ t 4 y 0 ≤ 1 := fun y => by
    unfold canS
    rw [us_at]
    have := wf.canc y
    split <;> omega
  refine ⟨⟨WF_net wf (fun _ _ => can_4 (by decide)) (fun _ _ => can_4 (by decide)) (fun _ _ => can_4 (by decide)) (fun _ _ => can_4 (by decide)) (by rw [can_4 (by decide)]; exact wf.now) (by rw [can_4 (by decide)]; exact wf.st) (by rw [can_4 (by decide)]; exact ⟨Nat.le_refl _, wf.tr⟩) (can_4 (by decide)) (by rw [can_4 (by decide)]; exact wf.ca) (fun i => by rw [can_4 (by decide)]; exact wf.sort i) (fun i => by rw [can_4 (by decide)]; exact wf.room i) (fun i => by rw [can_4 (by decide)]; exact ⟨Nat.le_refl _, wf.stops i⟩) c4 (fun a b => by rw [can_4 (by decide)]; exact wf.sta a b) (fun a b => by rw [can_4 (by decide)]; exact wf.min a b) (fun a b c => by rw [can_4 (by decide), can_4 (by decide), can_4 (by decide)]; exact wf.inc a b c) (fun a b _ => ⟨can_4 (by decide), can_4 (by decide), can_srt⟩) (fun w _ => by unfold begS readyS wfromS fromS; simp only [can_4 (σ := σ) (t := t) (x := 8) (show 8 ≠ 4 by decide), can_4 (σ := σ) (t := t) (x := 1) (show 1 ≠ 4 by decide)]) (fun i => by rw [can_4 (by decide)]; exact wf.days i) (fun t' ht' => ?_), SN_net wf hv.1.2 (fun _ _ => can_4 (by decide)) (fun _ _ => can_4 (by decide)) (fun _ _ => can_4 (by decide)) (can_4 (by decide)) (fun a b _ => ⟨can_4 (by decide), can_4 (by decide), can_srt⟩)⟩, ?_⟩
  · rw [can_4 (by decide)] at ht'
    have f := wf.freshT t' ht'
    have e4 : canS σ t 4 t' 0 = σ 4 t' 0 := if_neg (fun e => by omega)
    rw [can_4 (by decide), e4, can_4 (by decide)]
    refine ⟨f.1, f.2.1, f.2.2.1, fun k => ?_⟩
    rw [can_4 (by decide), can_4 (by decide), can_4 (by decide)]
    exact f.2.2.2 k
  · unfold SB
    simp only [can_4 (σ := σ) (t := t) (x := 0) (show 0 ≠ 4 by decide), can_4 (σ := σ) (t := t) (x := 3) (show 3 ≠ 4 by decide), can_4 (σ := σ) (t := t) (x := 5) (show 5 ≠ 4 by decide), can_4 (σ := σ) (t := t) (x := 8) (show 8 ≠ 4 by decide)]
    exact hv.2
theorem SB_c (h : ∀ x y q, x ≠ 7 → x ≠ 9 → x ≠ 10 → τ x y q = σ x y q) (sb : SB σ) : SB τ := by
  unfold SB
  simp only [h 0 _ _ (by decide) (by decide) (by decide), h 3 _ _ (by decide) (by decide) (by decide), h 5 _ _ (by decide) (by decide) (by decide), h 8 _ _ (by decide) (by decide) (by decide)]
  exact sb
theorem P1_init {t : Nat} (hv : INV σ) : P1 σ t 0 σ := ⟨hv.1, hv.2.2, fun y _ => hv.2.1 y, fun y hy => absurd hy (Nat.not_lt_zero _), fun _ _ _ => ⟨rfl, rfl⟩, fun _ _ _ _ _ _ => rfl⟩
theorem off_P1 {τ0 : SG} {t : Nat} : ∀ (m b c : Nat) (τ : SG), P1 τ0 t b τ → b + m = τ0 0 3 0 → P1 τ0 t (τ0 0 3 0) (offL t m b c τ).2
  | 0, b, c, τ, h, hb => by
    have : b = τ0 0 3 0 := by omega
    rw [← this]; exact h
  | m + 1, b, c, τ, h, hb => by
    have e3 : τ 0 3 0 = τ0 0 3 0 := h.2.2.2.2.2 0 _ _ (by decide) (by decide) (by decide)
    unfold offL
    by_cases q : gvF τ (cur τ b) t = 0
    · rw [if_pos q]; exact off_P1 m (b + 1) c τ (P1_no h q) (by omega)
    · rw [if_neg q]; exact off_P1 m (b + 1) (c + 1) _ (P1_yes h (by omega) q) (by omega)
theorem new_P2 {τ0 : SG} {t : Nat} : ∀ (m b : Nat) (τ : SG), P2 τ0 t b τ → b + m = τ0 0 3 0 → P2 τ0 t (τ0 0 3 0) (newL (givG τ0 t) m b τ)
  | 0, b, τ, h, hb => by
    have : b = τ0 0 3 0 := by omega
    rw [← this]; exact h
  | m + 1, b, τ, h, hb => by
    unfold newL
    by_cases q : givG τ0 t b = true
    · rw [if_pos q]; exact new_P2 m (b + 1) _ (P2_yes h (by omega) (giv_iff.mp q)) (by omega)
    · rw [if_neg q]; exact new_P2 m (b + 1) τ (P2_no h (giv_f.mp (Bool.not_eq_true _ ▸ q))) (by omega)
theorem op_cancel (hv : INV3 σ) (x : Int32) : Op (p_X5_cancel x) (p_X6_cancel x) cf1 sN σ := by
  have wf := hv.1.1
  have hnow := wf.now
  have htr := wf.tr
  rcases isT_or (σ := σ) x with hx | ⟨t, ht, rfl⟩
  · refine ⟨.inr eN, rfl, σ, hv, fun κ τ μ z w hw => ?_, fun σc κ μ z w hm hw => ?_⟩
    · unfold p_X5_cancel
      refine Rx_assoc ?_
      refine Rx_rd (g_chk6 hw) ?_
      exact Rx_thrown (q_trainOfN wf hw hx) ⟨rfl, κ, hw.thr⟩
    · unfold p_X6_cancel
      rw [nL_0]
      refine Rx_set (t_code hw) (fun w1 hw1 => ?_)
      refine Rx_assoc ?_
      refine Rx_rd (g_chk7 hw1) ?_
      refine Rx_rd (q_isT hw1 wf hx) ?_
      refine Rx_pos rfl ?_
      refine Rx_assoc ?_
      refine Rx_rd (g_chk7 hw1) ?_
      exact Rx_cn (R_fail hw1) (fun v w2 ⟨_, hw2⟩ => Rx_rt ⟨_, hw2, (hm.code 0).code 1, us_code⟩)
  · have hst := wf.stops t
    have hm0 := wf.min t 0
    have hcn := wf.canc t
    by_cases hc : σ 4 t 0 = 0 ∧ 0 < σ 3 t 0 ∧ σ 0 0 0 < σ 6 t 0
    · have hv1 := INV3_can hv ht
      have wf1 := hv1.1.1
      have hbx := wf1.bx
      have hP := off_P1 (t := t) _ 0 0 _ (P1_init hv1.1) (show 0 + canS σ t 0 3 0 = canS σ t 0 3 0 by omega)
      have hP2 := new_P2 _ 0 _ (P12 hP) (show 0 + canS σ t 0 3 0 = canS σ t 0 3 0 by omega)
      refine ⟨.inl (nI (offL t (canS σ t 0 3 0) 0 0 (canS σ t)).1), trivial, newL (givG (canS σ t) t) (canS σ t 0 3 0) 0 (offL t (canS σ t 0 3 0) 0 0 (canS σ t)).2, ⟨P2_inv hP2, SB_c hP2.2.2.2.2 hv1.2⟩, fun κ τ μ z w hw => ?_, fun σc κ μ z w hm hw => ?_⟩
      · unfold p_X5_cancel
        refine Rx_assoc ?_
        refine Rx_rd (g_chk6 hw) ?_
        refine Rx_rd (q_trainOf wf hw ht) ?_
        refine Rx_rd (g_canc hw ht) ?_
        refine Rx_pos (by rw [hc.1]; rfl) ?_
        refine Rx_rd (g_now hw) ?_
        refine Rx_assoc ?_
        refine Rx_rd (g_chk4 hw ht) ?_
        refine Rx_rd (r_beginsAfter hw wf ht (by omega)) ?_
        refine Rx_ifb (fun q => absurd hc.2 q) (fun _ => ?_)
        obtain ⟨w1, e1, hw1⟩ := s_canc hw ht
        refine Rx_rd (w' := w1) (v := ()) ((if_pos (Or.inr rfl)).trans e1) ?_
        refine Rx_assoc ?_
        refine Rx_rd (g_chk6 hw1) ?_
        have hw1 : Wd (canS σ t) κ τ μ z w1 := hw1
        unfold p_X5_takeOffAll
        refine Rx_cn (Q' := fun v w2 => ∃ κ2, v = nI (offL t (canS σ t 0 3 0) 0 0 (canS σ t)).1 ∧ Wd (stS (Pf (canS σ t) t (canS σ t 0 3 0)) (canS σ t 0 0 0) (offL t (canS σ t 0 3 0) 0 0 (canS σ t)).2) κ2 τ μ z w2 ∧ KT (canS σ t) t (canS σ t 0 3 0) κ2) (L_toff (τ0 := canS σ t) (f := 4095) wf1 (by omega) _ 0 0 (canS σ t) κ w1 (by omega) (by omega) (P1_init hv1.1) (by rw [st_none (fun y => by simp [Pf])]; exact hw1) (fun b' hb' => absurd hb' (Nat.not_lt_zero _)) (fun κ2 w2 a1 _ a3 => Rx_rt ⟨κ2, rfl, a1, a3⟩)) (fun v w2 ⟨κ2, e2, hw2, hk2⟩ => ?_)
        refine Rx_assoc ?_
        refine Rx_rd (g_chk6 hw2) ?_
        unfold p_X5_leadAnew
        rw [Pf_Pg] at hw2
        refine Rx_cn (Q' := fun _ w3 => ∃ κ3, Wd (newL (givG (canS σ t) t) (canS σ t 0 3 0) 0 (offL t (canS σ t 0 3 0) 0 0 (canS σ t)).2) κ3 τ μ z w3) (L_anew (τ0 := canS σ t) (f := 4095) wf1 _ 0 _ κ2 w2 (by omega) (by omega) (P12 hP) hw2 hk2 (fun κ3 w3 a1 _ => Rx_rt ⟨κ3, a1⟩)) (fun _ w3 ⟨κ3, hw3⟩ => ?_)
        exact Rx_rt ⟨by rw [e2], κ3, hw3⟩
      · unfold p_X6_cancel p_X6_cancel_b53
        rw [nL_0]
        refine Rx_set (t_code hw) (fun w1 hw1 => ?_)
        refine Rx_assoc ?_
        refine Rx_rd (g_chk7 hw1) ?_
        refine Rx_rd (q_isTy hw1 wf ht) ?_
        refine Rx_neg (by decide) ?_
        refine Rx_rd (g_chk7 hw1) ?_
        refine Rx_rd (h_canc hw1 (by omega)) ?_
        refine Rx_pos (by rw [hc.1]) ?_
        refine Rx_rd (g_chk7 hw1) ?_
        refine Rx_rd (h_stops hw1 (by omega)) ?_
        refine Rx_neg (by rw [nI_eq (by omega) (by omega)]; omega) ?_
        refine Rx_rd (g_chk7 hw1) ?_
        refine Rx_rd (r_node hw1) ?_
        refine Rx_rd (h_min hw1 (by omega) (by omega)) ?_
        refine Rx_rd (h_now hw1) ?_
        refine Rx_pos (by rw [nI_ltI (by omega) (by omega)]; exact hc.2.2) ?_
        refine Rx_rd (g_chk7 hw1) ?_
        obtain ⟨w2, e2, hw2⟩ := t_canc (v := 1) hw1 (show t < 16 by omega)
        refine Rx_rd (w' := w2) (v := ()) ((if_pos (Or.inr rfl)).trans e2) ?_
        have hw2 : Wd σc κ (canS σ t) (us μ 5 0 0 0) z w2 := hw2
        refine L_Moff (τ0 := canS σ t) (f := 4095) wf1 (by omega) _ 0 0 (canS σ t) _ w2 (show 0 + canS σ t 0 3 0 = canS σ t 0 3 0 by omega) (by omega) (P1_init hv1.1) (hm.code 0) hw2 (fun b' hb' => absurd hb' (Nat.not_lt_zero _)) (fun μ3 w3 a1 a2 a3 a4 a5 => ?_)
        refine L_Manew (τ0 := canS σ t) (t := t) (f := 4095) wf1 _ 0 _ μ3 w3 (show 0 + canS σ t 0 3 0 = canS σ t 0 3 0 by omega) (by omega) (P12 a3) a2 a1 a4 (fun μ4 w4 b1 b2 _ b4 => Rx_rt ⟨μ4, b1, b2, rfl, ?_⟩)
        rw [b4, a5]
        exact us_code
    · refine ⟨.inl (-1), trivial, σ, hv, fun κ τ μ z w hw => ?_, fun σc κ μ z w hm hw => ?_⟩
      · unfold p_X5_cancel p_X5_cancel_b24
        refine Rx_assoc ?_
        refine Rx_rd (g_chk6 hw) ?_
        refine Rx_rd (q_trainOf wf hw ht) ?_
        refine Rx_rd (g_canc hw ht) ?_
        refine Rx_if (fun h => ?_) (fun h => Rx_rt ⟨rfl, κ, hw⟩)
        simp (disch := omega) only [nL_0, nL_1, nL_2, nL_3, nL_4, nL_5, nL_6, nL_7, nL_10, nL_16, nL_31, nL_40, nL_60, nL_120, nL_160, nL_1439, nL_1000000, nL_10000000, nL_268435456, nI_ltI, nI_leI, nI_eq, Int32.not_lt, Int32.not_le, Nat.not_lt, Nat.not_le, m1_eqn, m1_eqm, nI_nem, ge_iff_le, gt_iff_lt] at h
        refine Rx_rd (g_now hw) ?_
        refine Rx_assoc ?_
        refine Rx_rd (g_chk4 hw ht) ?_
        refine Rx_rd (r_beginsAfter hw wf ht (by omega)) ?_
        refine Rx_ifb (fun q => Rx_rt ⟨rfl, κ, hw⟩) (fun q => absurd ⟨h, q⟩ hc)
      · unfold p_X6_cancel p_X6_cancel_b53
        rw [nL_0]
        refine Rx_set (t_code hw) (fun w1 hw1 => ?_)
        refine Rx_assoc ?_
        refine Rx_rd (g_chk7 hw1) ?_
        refine Rx_rd (q_isTy hw1 wf ht) ?_
        refine Rx_neg (by decide) ?_
        refine Rx_rd (g_chk7 hw1) ?_
        refine Rx_rd (h_canc hw1 (by omega)) ?_
        have fin : Rx (prt (-1 : Int32)) w1 (fun v w' => ∃ μ', Wd σc κ σ μ' z w' ∧ HM μ' ∧ v = -1 ∧ μ' 5 0 0 = 0) NE := Rx_rt ⟨_, hw1, hm.code 0, rfl, us_code⟩
        refine Rx_if (fun h => ?_) (fun h => fin)
        simp (disch := omega) only [nL_0, nL_1, nL_2, nL_3, nL_4, nL_5, nL_6, nL_7, nL_10, nL_16, nL_31, nL_40, nL_60, nL_120, nL_160, nL_1439, nL_1000000, nL_10000000, nL_268435456, nI_ltI, nI_leI, nI_eq, Int32.not_lt, Int32.not_le, Nat.not_lt, Nat.not_le, m1_eqn, m1_eqm, nI_nem, ge_iff_le, gt_iff_lt] at h
        refine Rx_rd (g_chk7 hw1) ?_
        refine Rx_rd (h_stops hw1 (by omega)) ?_
        refine Rx_if (fun h2 => fin) (fun h2 => ?_)
        simp (disch := omega) only [nL_0, nL_1, nL_2, nL_3, nL_4, nL_5, nL_6, nL_7, nL_10, nL_16, nL_31, nL_40, nL_60, nL_120, nL_160, nL_1439, nL_1000000, nL_10000000, nL_268435456, nI_ltI, nI_leI, nI_eq, Int32.not_lt, Int32.not_le, Nat.not_lt, Nat.not_le, m1_eqn, m1_eqm, nI_nem, ge_iff_le, gt_iff_lt] at h2
        refine Rx_rd (g_chk7 hw1) ?_
        refine Rx_rd (r_node hw1) ?_
        refine Rx_rd (h_min hw1 (by omega) (by omega)) ?_
        refine Rx_rd (h_now hw1) ?_
        refine Rx_if (fun h3 => ?_) (fun h3 => fin)
        simp (disch := omega) only [nL_0, nL_1, nL_2, nL_3, nL_4, nL_5, nL_6, nL_7, nL_10, nL_16, nL_31, nL_40, nL_60, nL_120, nL_160, nL_1439, nL_1000000, nL_10000000, nL_268435456, nI_ltI, nI_leI, nI_eq, Int32.not_lt, Int32.not_le, Nat.not_lt, Nat.not_le, m1_eqn, m1_eqm, nI_nem, ge_iff_le, gt_iff_lt] at h3
        exact absurd ⟨h, by omega, h3⟩ hc
end OPS
