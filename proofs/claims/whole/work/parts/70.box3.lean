section BOX3
variable {σ κ τ μ : SG} {z : BB} {w : PS} {y : LY} {h h' : AH}
theorem bnd_lft {α β γ : Type} {m : Mo α} {p : PM β} {r : α → β → Prop} {f : α → Mo γ} {v : β} {G : Option ((γ ⊕ String) × AH) → Prop} (hl : Lft y r m p) (e : p w = some (.inl v, w)) (hr : Rep y w h) (k : ∀ a h1, r a v → Rep y w h1 → G (f a h1)) : G (bnd m f h) := by
  obtain ⟨x, h1, e1, e2, e3⟩ := hl w h hr _ _ e
  cases x with
  | inl a => rw [bnd_eq e1]; exact k a h1 e2 e3
  | inr _ => cases e2
theorem hasSt_or (hw : Wd σ κ τ μ z w) (wf : WF σ) (x : Int32) : ∃ v, p_X2_hasStation x w = some (.inl v, w) ∧ (v = 0 ↔ ¬ ∃ n, n < σ 0 1 0 ∧ x = nI n) := by
  have hst := wf.st
  rcases i_or x with hx | ⟨n, hn, rfl⟩
  · refine ⟨0, q_hasStN hx, fun _ ⟨n, h1, h2⟩ => ?_, fun _ => rfl⟩
    subst h2
    exact nI_pos (by omega) hx
  · refine ⟨_, q_hasSt hw wf hn, fun q ⟨m, h1, h2⟩ => ?_, fun q => bI_f (fun u => q ⟨n, u, rfl⟩)⟩
    rw [nI_eq hn (by omega)] at h2
    subst h2
    rw [bI_t h1] at q
    cases q
theorem within_or (m : Nat) (hm : m < 2 ^ 31) (x : Int32) : ∃ v, p_X5_isWithin x (nI m) w = some (.inl v, w) ∧ (v = 0 ↔ ¬ ∃ n, n ≤ m ∧ x = nI n) := by
  rcases i_or x with hx | ⟨n, hn, rfl⟩
  · refine ⟨0, q_withinN hx, fun _ ⟨n, h1, h2⟩ => ?_, fun _ => rfl⟩
    subst h2
    exact nI_pos (by omega) hx
  · refine ⟨_, q_within hn hm, fun q ⟨m, h1, h2⟩ => ?_, fun q => bI_f (fun u => q ⟨n, u, rfl⟩)⟩
    rw [nI_eq hn (by omega)] at h2
    subst h2
    rw [bI_t h1] at q
    cases q
theorem minute_or (x : Int32) : ∃ v, p_X5_isMinute x w = some (.inl v, w) ∧ (v = 0 ↔ ¬ ∃ n, n ≤ 1439 ∧ x = nI n) := by
  rcases i_or x with hx | ⟨n, hn, rfl⟩
  · refine ⟨0, q_minuteN hx, fun _ ⟨n, h1, h2⟩ => ?_, fun _ => rfl⟩
    subst h2
    exact nI_pos (by omega) hx
  · refine ⟨_, q_minute hn, fun q ⟨m, h1, h2⟩ => ?_, fun q => bI_f (fun u => q ⟨n, u, rfl⟩)⟩
    rw [nI_eq hn (by omega)] at h2
    subst h2
    rw [bI_t h1] at q
    cases q
def goodB (σ : SG) (x1 x2 x3 x4 x5 x6 : Int32) : Prop := σ 0 3 0 < 60 ∧ (∃ n, n < σ 0 1 0 ∧ x1 = nI n) ∧ (∃ n, n < σ 0 1 0 ∧ x4 = nI n) ∧ (∃ n, n ≤ 120 ∧ x2 = nI n) ∧ (∃ n, n ≤ 120 ∧ x5 = nI n) ∧ (∃ n, n ≤ 1439 ∧ x3 = nI n) ∧ ∃ n, n ≤ 1439 ∧ x6 = nI n
def mkBox (t0 mi x0 : Nat) (x1 x2 x3 x4 x5 x6 : Int32) : Mo Int32 :=
    bnd (gA' x0 6 1) fun v76 =>
    bnd (newO 1 2 [.null, .null]) fun v79 =>
    bnd (newO 5 13 [.int 0, .int 0, .int 0, .int 0, .int 0, .int 0, .null, .int 0, .int 0, .int 0, .int 0, .int 0, .int 0]) fun v83 =>
    bnd (f_X4_init t0 mi v83 x1 x2 x3 x4 x5 x6) fun _ =>
    bnd (f_X0_init t0 mi v79 v83) fun _ =>
    bnd (vc v76 0 (f_Jx4a65c_add_9ea2d t0 mi v76 v79)) fun _ =>
    bnd (gA' x0 6 1) fun v107 =>
    bnd (vc v107 0 (f_Jx4a65c_size_8abf5 t0 mi v107)) fun v110 =>
    rt (v110 - (1 : Int32))
theorem box_walk {t0 mi : Nat} {x1 x2 x3 x4 x5 x6 : Int32} {G : Option ((Int32 ⊕ String) × AH) → Prop} (wf : WF σ) (hw : Wd σ κ τ μ z w) (hr : Rep y w h) (hneg : ¬ goodB σ x1 x2 x3 x4 x5 x6 → ∀ h1, Rep y w h1 → G (some (.inl (-1), h1))) (hpos : goodB σ x1 x2 x3 x4 x5 x6 → ∀ h1, Rep y w h1 → G (mkBox t0 mi (adO y 6 0) x1 x2 x3 x4 x5 x6 h1)) : G (f_X5_box t0 mi (adO y 6 0) x1 x2 x3 x4 x5 x6 h) := by
  have hbx := wf.bx
  unfold f_X5_box X5_box_b35 X5_box_b56 X5_box_b73
  have o6 := (hr.2.1 6 0 rfl).1
  have o0 := hr.2.1 0 1 rfl
  have eF : w.2.2.1 0 1 2 = nI (σ 0 3 0) := hw.cr.bx
  rw [bnd_eq (gA_eq (v := adO y 0 1) o6 rfl), bnd_eq (siz_eq (n := nI (σ 0 3 0)) (by rw [← eF]; exact o0.1)), nL_60]
  by_cases hb : 60 ≤ σ 0 3 0
  · rw [if_pos ((nI_leI (by omega) (by omega)).mpr hb)]
    exact hneg (fun q => by have := q.1; omega) h hr
  rw [if_neg (fun u => hb ((nI_leI (by omega) (by omega)).mp u))]
  rw [bnd_eq (gA_eq (v := adO y 3 0) o6 rfl)]
  obtain ⟨v1, e1, i1⟩ := hasSt_or hw wf x1
  refine bnd_lft (Lft_vc (Lf_f_X2_hasStation x1)) (by rw [pbnd_eq (g_chk3 hw)]; exact e1) hr (fun a h1 ea hr => ?_)
  subst ea
  by_cases q1 : a = 0
  · rw [if_pos q1]
    exact hneg (fun q => i1.mp q1 q.2.1) h1 hr
  rw [if_neg q1]
  have o6 := (hr.2.1 6 0 rfl).1
  rw [bnd_eq (gA_eq (v := adO y 3 0) o6 rfl)]
  obtain ⟨v2, e2, i2⟩ := hasSt_or hw wf x4
  refine bnd_lft (Lft_vc (Lf_f_X2_hasStation x4)) (by rw [pbnd_eq (g_chk3 hw)]; exact e2) hr (fun a h1 ea hr => ?_)
  subst ea
  by_cases q2 : a = 0
  · rw [if_pos q2]
    exact hneg (fun q => i2.mp q2 q.2.2.1) h1 hr
  rw [if_neg q2, nL_120]
  obtain ⟨v3, e3, i3⟩ := within_or (w := w) 120 (by decide) x2
  refine bnd_lft (Lf_f_X5_isWithin x2 (nI 120)) e3 hr (fun a h1 ea hr => ?_)
  subst ea
  by_cases q3 : a = 0
  · rw [if_pos q3]
    exact hneg (fun q => i3.mp q3 q.2.2.2.1) h1 hr
  rw [if_neg q3]
  obtain ⟨v4, e4, i4⟩ := within_or (w := w) 120 (by decide) x5
  refine bnd_lft (Lf_f_X5_isWithin x5 (nI 120)) e4 hr (fun a h1 ea hr => ?_)
  subst ea
  by_cases q4 : a = 0
  · rw [if_pos q4]
    exact hneg (fun q => i4.mp q4 q.2.2.2.2.1) h1 hr
  rw [if_neg q4]
  obtain ⟨v5, e5, i5⟩ := minute_or (w := w) x3
  refine bnd_lft (Lf_f_X5_isMinute x3) e5 hr (fun a h1 ea hr => ?_)
  subst ea
  by_cases q5 : a = 0
  · rw [if_pos q5]
    exact hneg (fun q => i5.mp q5 q.2.2.2.2.2.1) h1 hr
  rw [if_neg q5]
  obtain ⟨v6, e6, i6⟩ := minute_or (w := w) x6
  refine bnd_lft (Lf_f_X5_isMinute x6) e6 hr (fun a h1 ea hr => ?_)
  subst ea
  by_cases q6 : a = 0
  · rw [if_pos q6]
    exact hneg (fun q => i6.mp q6 q.2.2.2.2.2.2) h1 hr
  rw [if_neg q6]
  refine hpos ⟨by omega, ?_, ?_, ?_, ?_, ?_, ?_⟩ h1 hr
  · exact Classical.byContradiction (fun u => q1 (i1.mpr u))
  · exact Classical.byContradiction (fun u => q2 (i2.mpr u))
  · exact Classical.byContradiction (fun u => q3 (i3.mpr u))
  · exact Classical.byContradiction (fun u => q4 (i4.mpr u))
  · exact Classical.byContradiction (fun u => q5 (i5.mpr u))
  · exact Classical.byContradiction (fun u => q6 (i6.mpr u))
def kBx (κ : SG) (b : Nat) : SG := fun p l x => if p = 3 ∧ l / 2 = b ∧ x = 0 then 0 else κ p l x
def FBx (F : F3) (s κ : SG) (b : Nat) : F3 := fun c i k => if c = 0 ∧ i = 1 ∧ k = 2 then nI (b + 1) else if c = 0 ∧ i = 1 ∧ k = 0 then F 0 1 0 + 1 else if c = 5 ∧ i / 2 = b then FT s κ i k else F c i k
theorem FBx_o {F : F3} {s κ : SG} {b c i k : Nat} (h0 : c ≠ 0) (h5 : ¬ (c = 5 ∧ i / 2 = b)) : FBx F s κ b c i k = F c i k := by
  unfold FBx
  rw [if_neg (fun q => h0 q.1), if_neg (fun q => h0 q.1), if_neg h5]
theorem FBx_5 {F : F3} {s κ : SG} {b i k : Nat} (h5 : i / 2 = b) : FBx F s κ b 5 i k = FT s κ i k := by
  unfold FBx
  rw [if_neg (by omega), if_neg (by omega), if_pos ⟨rfl, h5⟩]
theorem FBx_0 {F : F3} {s κ : SG} {b k : Nat} : FBx F s κ b 0 0 k = F 0 0 k := by
  unfold FBx
  rw [if_neg (by omega), if_neg (by omega), if_neg (by omega)]
theorem CR_bx {F A : F3} {h w r d wt u : Nat} (wf : WF σ) (hb : σ 0 3 0 < 60) (hc : CR σ κ F A) (inv : INV3 (bxS σ h w r d wt u)) : CR (bxS σ h w r d wt u) (kBx κ (σ 0 3 0)) (FBx F (bxS σ h w r d wt u) (kBx κ (σ 0 3 0)) (σ 0 3 0)) A := by
  have wf' := inv.1.1
  refine CR_way (fun i => i / 2 = σ 0 3 0) hc ⟨wf'.tr, wf'.bx, fun b => (wf'.box b).2.2.2.2.2.2.1⟩ (fun x y q a b c => bx_k a b c) ⟨bx_0 (by decide), bx_0 (by decide), bx_0 (by decide), bx_0 (by decide)⟩ (fun c i k h0 h1 h5 => FBx_o h0 (fun q => h5 q.1)) FBx_0 ?_ (fun b => ?_) (fun i hi k => FBx_5 hi) (fun i hi => ⟨fun k => FBx_o (by decide) (fun q => hi q.2), bx_w hi, fun q => bx_9n hi, ?_⟩) (fun a l x ha => ?_)
  · rw [bx_03]
    unfold FBx
    rw [if_pos ⟨rfl, rfl, rfl⟩]
  · rw [FBx_o (by decide) (by omega), hc.emp]
    by_cases q : b = σ 0 3 0
    · subst q
      rw [bx_8b]
      simp
    · rw [bx_8n q]
  · unfold kBx
    rw [if_neg (fun q => hi q.2.1)]
  · unfold kBx
    rw [if_neg (fun q => ha q.1)]
end BOX3
