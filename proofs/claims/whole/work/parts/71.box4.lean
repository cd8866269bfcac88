section BOX4
variable {σ κ τ μ : SG} {z : BB} {w : PS} {y : LY} {h h' : AH}
theorem FT_new {hh ww r d wt u : Nat} (wf : WF σ) : (fun (s κ' : SG) => FT s κ' (2 * σ 0 3 0) 0 = nI hh ∧ FT s κ' (2 * σ 0 3 0) 1 = nI ww ∧ FT s κ' (2 * σ 0 3 0) 2 = nI r ∧ FT s κ' (2 * σ 0 3 0) 3 = nI d ∧ FT s κ' (2 * σ 0 3 0) 4 = nI wt ∧ FT s κ' (2 * σ 0 3 0) 5 = nI u ∧ FT s κ' (2 * σ 0 3 0) 7 = 0 ∧ FT s κ' (2 * σ 0 3 0) 8 = 0 ∧ FT s κ' (2 * σ 0 3 0) 9 = -1 ∧ FT s κ' (2 * σ 0 3 0) 10 = -1 ∧ FT s κ' (2 * σ 0 3 0) 11 = -1 ∧ FT s κ' (2 * σ 0 3 0) 12 = 0) (bxS σ hh ww r d wt u) (kBx κ (σ 0 3 0)) := by
  have e1 : 2 * σ 0 3 0 % 2 = 0 := by omega
  have e2 : 2 * σ 0 3 0 / 2 = σ 0 3 0 := by omega
  have f := wf.freshW (2 * σ 0 3 0) (Or.inl (by omega))
  have e3 := bx_93 (σ := σ) (h := hh) (w := ww) (r := r) (d := d) (wt := wt) (u := u) e2
  refine ⟨?_, ?_, ?_, ?_, ?_, ?_, ?_, ?_, ?_, ?_, ?_, ?_⟩
  · show nI (fromS _ _) = _
    unfold fromS; rw [if_pos e1, e2, bx_8b]; rfl
  · show nI (wfromS _ _) = _
    unfold wfromS; rw [if_pos e1, e2, bx_8b]; rfl
  · show nI (readyS _ _) = _
    unfold readyS; rw [if_pos e1, e2, bx_8b]; rfl
  · show nI (toS _ _) = _
    unfold toS; rw [if_pos e1, e2, bx_8b]; rfl
  · show nI (wtoS _ _) = _
    unfold wtoS; rw [if_pos e1, e2, bx_8b]; rfl
  · show nI (dueS _ _) = _
    unfold dueS; rw [if_pos e1, e2, bx_8b]; rfl
  · show nI (bxS σ hh ww r d wt u 9 (2 * σ 0 3 0) 2) = _
    rw [bx_9o (by decide) (by decide), f.2.1]; rfl
  · show nI (bxS σ hh ww r d wt u 9 (2 * σ 0 3 0) 0) = _
    rw [bx_9o (by decide) (by decide), f.1]; rfl
  · show m1 (bxS σ hh ww r d wt u 9 (2 * σ 0 3 0) 5) = _
    rw [bx_9o (by decide) (by decide), f.2.2.1]; rfl
  · show m1 (bxS σ hh ww r d wt u 9 (2 * σ 0 3 0) 3) = _
    rw [e3.1]; rfl
  · show (if bxS σ hh ww r d wt u 9 (2 * σ 0 3 0) 3 = 0 then -1 else _) = _
    rw [if_pos e3.1]
  · show nI (kBx κ (σ 0 3 0) 3 (2 * σ 0 3 0) 0) = _
    unfold kBx
    rw [if_pos ⟨rfl, e2, rfl⟩]; rfl
theorem cls_box (hv : INV3 σ) {hh ww r d wt u : Nat} (hb : σ 0 3 0 < 60) (h1 : hh < σ 0 1 0) (h2 : d < σ 0 1 0) (h3 : ww ≤ 120) (h4 : wt ≤ 120) (h5 : r ≤ 1439) (h6 : u ≤ 1439) : ClsH (fun t0 mi a => f_X5_box t0 mi a (nI hh) (nI ww) (nI r) (nI d) (nI wt) (nI u)) σ (bxS σ hh ww r d wt u) (.inl (nI (σ 0 3 0))) := by
  have wf := hv.1.1
  have hst := wf.st
  have inv := INV3_bx hv hb h1 h2 h3 h4 h5 h6
  intro y mi κ τ μ z w h hw hr c0 c1
  refine box_walk (G := fun o => ∃ y' κ' z' w' h', o = some (_, h') ∧ (yB y' = yB y ∧ yt0 y' = yt0 y ∧ yC y' 0 ≤ 100 ∧ yC y' 1 ≤ 100) ∧ Wd (bxS σ hh ww r d wt u) κ' τ μ z' w' ∧ Rep y' w' h' ∧ z'.1 ≤ z.1 + 6 ∧ z'.2.1 ≤ z.2.1 + 200 ∧ z'.2.2 = z.2.2) wf hw hr (fun q => absurd ⟨hb, ⟨hh, h1, rfl⟩, ⟨d, h2, rfl⟩, ⟨ww, h3, rfl⟩, ⟨wt, h4, rfl⟩, ⟨r, h5, rfl⟩, ⟨u, h6, rfl⟩⟩ q) (fun _ h hr => ?_)
  have eF : w.2.2.1 0 1 2 = nI (σ 0 3 0) := hw.cr.bx
  have enB : (w.2.2.1 0 1 2).toNatClampNeg = σ 0 3 0 := by rw [eF, nI_clamp (by omega)]
  have o6 := hr.2.1 6 0 rfl
  have o0 := hr.2.1 0 1 rfl
  have l6 : yB y < h.1 := hr.lt o6.1
  have l0 : yB y + 13 < h.1 := hr.lt o0.1
  have b1 := hr.1.1
  have b2 := hr.1.2.1
  have b3 := hw.1.1
  have b4 := hw.1.2.1
  obtain ⟨h3', i1, i2, i3, i4, i5, i6⟩ := x4init (t0 := yt0 y) (mi := mi) (x1 := nI hh) (x2 := nI ww) (x3 := nI r) (x4 := nI d) (x5 := nI wt) (x6 := nI u) (h := (h.1 + 1 + 1, h.2.1 + 2 + 13, va_up (va_up h.2.2 h.1 (some (.inr (1, [.null, .null])))) (h.1 + 1) (some (.inr (5, [.int 0, .int 0, .int 0, .int 0, .int 0, .int 0, .null, .int 0, .int 0, .int 0, .int 0, .int 0, .int 0]))))) (a := h.1 + 1) up_self (Nat.lt_succ_self _)
  dsimp only at i2 i3 i4 i5 i6
  have i7 : h3'.2.2 h.1 = some (.inr (1, [.null, .null])) := by
    rw [i6 h.1 (by omega) (by omega), va_up_ne _ _ (by omega)]
    exact up_self
  have fr3 : ∀ x, x < h.1 ∨ h.1 + 3 ≤ x → h3'.2.2 x = h.2.2 x := fun x hx => by
    rw [i6 x (by omega) (by omega), va_up_ne _ _ (by omega), va_up_ne _ _ (by omega)]
  obtain ⟨h4', j1, j2, j3, j4, j5⟩ : ∃ h4' : AH, f_X0_init (yt0 y) mi h.1 (h.1 + 1) h3' = some (.inl (), h4') ∧ h4'.1 = h.1 + 3 ∧ h4'.2.1 = h.2.1 + 24 ∧ h4'.2.2 h.1 = some (.inr (1, [.ref (h.1 + 1), .null])) ∧ ∀ x, x ≠ h.1 → h4'.2.2 x = h3'.2.2 x := by
    unfold f_X0_init
    rw [bnd_eq (pV_eq i7 (by simp)), bnd_eq (pV_eq hset_self (by simp))]
    refine ⟨_, rfl, ?_, ?_, hset_self, fun x hx => by rw [hset_ne hx, hset_ne hx]⟩
    · show h3'.1 = _
      omega
    · show h3'.2.1 = _
      omega
  have fr4 : ∀ x, x < h.1 → h4'.2.2 x = h.2.2 x := fun x hx => by rw [j5 x (by omega), fr3 x (Or.inl hx)]
  have z4 : ∀ x, h4'.1 ≤ x → h4'.2.2 x = none := fun x hx => by rw [j5 x (by omega), fr3 x (by omega)]; exact hr.1.2.2.1 x (by omega)
  obtain ⟨h', e', c', f', r1, r2, r3, r4, r5, r6, r7, r8⟩ := hr.add (mi := mi) (v := h.1) (Or.inr rfl) (by omega) fr4 z4 j4 (Or.inl rfl) c1 (by rw [enB]; omega)
  rw [enB] at r2 r3 r4 r7
  have r7' : h'.2.2 (yB y + 13) = some (.inr (0, [.int (w.2.2.1 0 1 0 + 1), .ref e', .int (nI (σ 0 3 0 + 1))])) := r7
  have ne6 : yB y ≠ e' := by
    rcases r5 with q | q
    · intro u
      have q1 := q.2.2.1
      rw [← u] at q1
      have q2 : yR y (yB y) = (0, 6, 0) := o6.2
      rw [q2] at q1
      cases q1
    · omega
  have ft := FT_new (κ := κ) (hh := hh) (ww := ww) (r := r) (d := d) (wt := wt) (u := u) wf
  have eh : 2 * σ 0 3 0 / 2 = σ 0 3 0 := by omega
  have hmr : MR τ μ (FBx w.2.2.1 (bxS σ hh ww r d wt u) (kBx κ (σ 0 3 0)) (σ 0 3 0)) w.2.2.2.1 := by
    refine hw.mr.frame (fun k => ?_) (fun _ _ => rfl)
    exact FBx_o (by decide) (by omega)
  refine ⟨yBx y (σ 0 3 0) h.1 e' c', kBx κ (σ 0 3 0), (h'.1 - yB y, h'.2.1, z.2.2), (h'.1 - yB y, h'.2.1, FBx w.2.2.1 (bxS σ hh ww r d wt u) (kBx κ (σ 0 3 0)) (σ 0 3 0), w.2.2.2.1, w.2.2.2.2), h', ?_, ⟨rfl, rfl, c0, r2.2.2⟩, ⟨⟨rfl, rfl, hw.1.2.2⟩, CR_bx wf hb hw.cr inv, hmr⟩, hr.box (f := f') enB (by omega) (fun k => FBx_0) ?_ ?_ (fun c i k => FBx_o) ?_ ?_ ⟨r2.1, r2.2.1⟩ r3 r4 ?_ r6 r7' ?_ ?_ ?_ ?_ ?_, ?_, ?_, rfl⟩
  · unfold mkBox
    rw [bnd_eq (gA_eq (v := adO y 0 1) o6.1 rfl)]
    refine (bnd_eq (v := h.1) (h1 := (h.1 + 1, h.2.1 + 2, va_up h.2.2 h.1 (some (.inr (1, [.null, .null]))))) rfl).trans ?_
    refine (bnd_eq (v := h.1 + 1) (h1 := (h.1 + 1 + 1, h.2.1 + 2 + 13, va_up (va_up h.2.2 h.1 (some (.inr (1, [.null, .null])))) (h.1 + 1) (some (.inr (5, [.int 0, .int 0, .int 0, .int 0, .int 0, .int 0, .null, .int 0, .int 0, .int 0, .int 0, .int 0, .int 0]))))) rfl).trans ?_
    rw [bnd_eq i1, bnd_eq j1, bnd_eq ((vc_eq (a := adO y 0 1) ((fr4 _ l0).trans o0.1)).trans r1)]
    have o6' : h'.2.2 (adO y 6 0) = some (.inr (6, fds y w.2.2.1 6 0)) := by
      rw [r8 (adO y 6 0) ne6 (show yB y ≠ yB y + 13 by omega)]
      exact (fr4 _ l6).trans o6.1
    rw [bnd_eq (gA_eq (v := adO y 0 1) o6' rfl), bnd_eq (siz_eq r7), nL_1, nI_sub (by omega), Nat.add_sub_cancel]
    rfl
  · unfold FBx
    rw [if_neg (by omega), if_pos ⟨rfl, rfl, rfl⟩]
  · unfold FBx
    rw [if_pos ⟨rfl, rfl, rfl⟩]
  · rw [FBx_o (by decide) (by omega), hw.cr.emp, wf.freshB _ (Nat.le_refl _)]; rfl
  · funext j
    rw [hw.cr.leg, (wf.freshW (2 * σ 0 3 0) (Or.inl (by omega))).2.2.2.2 j]; rfl
  · rcases r5 with q | q
    · exact Or.inl ⟨q.1, q.2.1, q.2.2.1, by rw [q.2.2.2.1, j2]⟩
    · exact Or.inr ⟨by rw [q.1, j2], by rw [q.2.1, j2]⟩
  · rw [r8 h.1 (by rcases r5 with q | q <;> omega) (show h.1 ≠ yB y + 13 by omega)]
    exact j4
  · rw [r8 (h.1 + 1) (by rcases r5 with q | q <;> omega) (show h.1 + 1 ≠ yB y + 13 by omega), j5 _ (by omega), i4]
    simp only [FBx_5 eh]
    obtain ⟨t1, t2, t3, t4, t5, t6, t7, t8, t9, t10, t11, t12⟩ := ft
    rw [t1, t2, t3, t4, t5, t6, t7, t8, t9, t10, t11, t12]
  · rw [r8 (h.1 + 2) (by rcases r5 with q | q <;> omega) (show h.1 + 2 ≠ yB y + 13 by omega), j5 _ (by omega)]
    exact i5
  · intro x q1 q2 q3
    rw [r8 x q2 q3]
    exact fr4 x q1
  · intro x hx
    rw [r8 x (by rcases r5 with q | q <;> omega) (show x ≠ yB y + 13 by rcases r5 with q | q <;> omega)]
    exact z4 x (by rcases r5 with q | q <;> omega)
  · show h'.1 - yB y ≤ z.1 + 6
    rcases r5 with q | q <;> omega
  · show h'.2.1 ≤ z.2.1 + 200
    rcases r5 with q | q <;> omega
theorem op_box (hv : INV3 σ) (x1 x2 x3 x4 x5 x6 : Int32) : Op1H (fun t0 mi a => f_X5_box t0 mi a x1 x2 x3 x4 x5 x6) (fun t0 mi a => f_X6_box t0 mi a x1 x2 x3 x4 x5 x6) σ := by
  have wf := hv.1.1
  have hst := wf.st
  have hbx := wf.bx
  by_cases hg : goodB σ x1 x2 x3 x4 x5 x6
  · obtain ⟨hb, ⟨hh, h1, rfl⟩, ⟨d, h2, rfl⟩, ⟨ww, h3, rfl⟩, ⟨wt, h4, rfl⟩, ⟨r, h5, rfl⟩, ⟨u, h6, rfl⟩⟩ := hg
    refine ⟨nI (σ 0 3 0), bxS σ hh ww r d wt u, INV3_bx hv hb h1 h2 h3 h4 h5 h6, cls_box hv hb h1 h2 h3 h4 h5 h6, RfrH.of (fun y t0 mi => Lf_f_X6_box _ _ _ _ _ _) (fun σc κ μ z w hm hw => ?_)⟩
    unfold p_X6_box p_X6_box_b58
    rw [nL_0, nL_1, nL_120, nL_1439, nL_60, nL_2]
    refine Rx_set (t_code hw) (fun w1 hw1 => ?_)
    refine Rx_neg (nI_pos (by omega)) ?_
    refine Rx_rd (h_st hw1) ?_
    refine Rx_neg (by rw [nI_leI (by omega) (by omega)]; omega) ?_
    refine Rx_neg (nI_pos (by omega)) ?_
    refine Rx_rd (h_st hw1) ?_
    refine Rx_neg (by rw [nI_leI (by omega) (by omega)]; omega) ?_
    refine Rx_neg (nI_pos (by omega)) ?_
    refine Rx_neg (by rw [nI_ltI (by omega) (by omega)]; omega) ?_
    refine Rx_neg (nI_pos (by omega)) ?_
    refine Rx_neg (by rw [nI_ltI (by omega) (by omega)]; omega) ?_
    refine Rx_rd (h_bx hw1) ?_
    refine Rx_neg (by rw [nI_eq (by omega) (by omega)]; omega) ?_
    refine Rx_neg (by decide) ?_
    refine Rx_neg (nI_pos (by omega)) ?_
    refine Rx_neg (by rw [nI_ltI (by omega) (by omega)]; omega) ?_
    refine Rx_neg (nI_pos (by omega)) ?_
    refine Rx_pos (by rw [nI_leI (by omega) (by omega)]; omega) ?_
    refine Rx_rd (g_chk7 hw1) ?_
    refine Rx_rd (h_bx hw1) ?_
    refine Rx_set (t_home hw1 (by omega)) (fun w2 hw2 => ?_)
    refine Rx_rd (g_chk7 hw2) ?_
    refine Rx_rd (h_bx hw2) ?_
    rw [us_ne (show 0 ≠ 8 by decide)]
    refine Rx_set (t_walk hw2 (by omega)) (fun w3 hw3 => ?_)
    refine Rx_rd (g_chk7 hw3) ?_
    refine Rx_rd (h_bx hw3) ?_
    rw [us_ne (show 0 ≠ 8 by decide), us_ne (show 0 ≠ 8 by decide)]
    refine Rx_set (t_ready hw3 (by omega)) (fun w4 hw4 => ?_)
    refine Rx_rd (g_chk7 hw4) ?_
    refine Rx_rd (h_bx hw4) ?_
    rw [us_ne (show 0 ≠ 8 by decide), us_ne (show 0 ≠ 8 by decide), us_ne (show 0 ≠ 8 by decide)]
    refine Rx_set (t_desk hw4 (by omega)) (fun w5 hw5 => ?_)
    refine Rx_rd (g_chk7 hw5) ?_
    refine Rx_rd (h_bx hw5) ?_
    rw [us_ne (show 0 ≠ 8 by decide), us_ne (show 0 ≠ 8 by decide), us_ne (show 0 ≠ 8 by decide), us_ne (show 0 ≠ 8 by decide)]
    refine Rx_set (t_walkT hw5 (by omega)) (fun w6 hw6 => ?_)
    refine Rx_rd (g_chk7 hw6) ?_
    refine Rx_rd (h_bx hw6) ?_
    rw [us_ne (show 0 ≠ 8 by decide), us_ne (show 0 ≠ 8 by decide), us_ne (show 0 ≠ 8 by decide), us_ne (show 0 ≠ 8 by decide), us_ne (show 0 ≠ 8 by decide)]
    refine Rx_set (t_due hw6 (by omega)) (fun w7 hw7 => ?_)
    refine Rx_rd (g_chk7 hw7) ?_
    refine Rx_rd (h_bx hw7) ?_
    rw [us_ne (show 0 ≠ 8 by decide), us_ne (show 0 ≠ 8 by decide), us_ne (show 0 ≠ 8 by decide), us_ne (show 0 ≠ 8 by decide), us_ne (show 0 ≠ 8 by decide), us_ne (show 0 ≠ 8 by decide), nI_mulI]
    refine Rx_set (t_standsN hw7 (by omega)) (fun w8 hw8 => ?_)
    refine Rx_rd (g_chk7 hw8) ?_
    refine Rx_rd (h_bx hw8) ?_
    rw [us_ne (show 0 ≠ 9 by decide), us_ne (show 0 ≠ 9 by decide), us_ne (show 0 ≠ 8 by decide), us_ne (show 0 ≠ 8 by decide), us_ne (show 0 ≠ 8 by decide), us_ne (show 0 ≠ 8 by decide), us_ne (show 0 ≠ 8 by decide), us_ne (show 0 ≠ 8 by decide), nI_mulI, nI_add]
    refine Rx_set (t_standsN hw8 (by omega)) (fun w9 hw9 => ?_)
    refine Rx_rd (h_bx hw9) ?_
    rw [us_ne (show 0 ≠ 9 by decide), us_ne (show 0 ≠ 9 by decide), us_ne (show 0 ≠ 9 by decide), us_ne (show 0 ≠ 9 by decide), us_ne (show 0 ≠ 8 by decide), us_ne (show 0 ≠ 8 by decide), us_ne (show 0 ≠ 8 by decide), us_ne (show 0 ≠ 8 by decide), us_ne (show 0 ≠ 8 by decide), us_ne (show 0 ≠ 8 by decide), nI_add]
    refine Rx_set (t_bx hw9) (fun w10 hw10 => ?_)
    refine Rx_rd (h_bx hw10) ?_
    rw [us_self, nI_sub (by omega), Nat.add_sub_cancel]
    exact Rx_rt ⟨_, hw10, hm.code 0, rfl, us_code⟩
  · refine ⟨-1, σ, hv, ?_, RfrH.of (fun y t0 mi => Lf_f_X6_box _ _ _ _ _ _) (fun σc κ μ z w hm hw => ?_)⟩
    · intro y mi κ τ μ z w h hw hr c0 c1
      exact box_walk (G := fun o => ∃ y' κ' z' w' h', o = some (_, h') ∧ (yB y' = yB y ∧ yt0 y' = yt0 y ∧ yC y' 0 ≤ 100 ∧ yC y' 1 ≤ 100) ∧ Wd σ κ' τ μ z' w' ∧ Rep y' w' h' ∧ z'.1 ≤ z.1 + 6 ∧ z'.2.1 ≤ z.2.1 + 200 ∧ z'.2.2 = z.2.2) wf hw hr (fun _ h1 hr1 => ⟨y, κ, z, w, h1, rfl, ⟨rfl, rfl, c0, c1⟩, hw, hr1, by omega, by omega, rfl⟩) (fun q => absurd q hg)
    · unfold p_X6_box p_X6_box_b57
      rw [nL_0]
      refine Rx_set (t_code hw) (fun w1 hw1 => ?_)
      have fin : Rx (prt (-1 : Int32)) w1 (fun v w' => ∃ μ', Wd σc κ σ μ' z w' ∧ HM μ' ∧ v = -1 ∧ μ' 5 0 0 = 0) NE := Rx_rt ⟨_, hw1, hm.code 0, rfl, us_code⟩
      have f58 : ∀ s0 : Int32, (s0 = 0 ∨ (¬ x3 < 0 → ¬ (1439 : Int32) < x3 → ¬ x6 < 0 → x6 ≤ (1439 : Int32) → ¬ σ 0 3 0 < 60)) → Rx (p_X6_box_b58 x1 x2 x3 x4 x5 x6 s0) w1 (fun v w' => ∃ μ', Wd σc κ σ μ' z w' ∧ HM μ' ∧ v = -1 ∧ μ' 5 0 0 = 0) NE := by
        intro s0 hs
        unfold p_X6_box_b58 p_X6_box_b98
        refine Rx_rd (h_bx hw1) ?_
        refine Rx_if (fun _ => fin) (fun q0 => ?_)
        refine Rx_if (fun _ => fin) (fun q1 => ?_)
        refine Rx_if (fun _ => fin) (fun q2 => ?_)
        refine Rx_if (fun _ => fin) (fun q3 => ?_)
        refine Rx_if (fun _ => fin) (fun q4 => ?_)
        refine Rx_if (fun q5 => ?_) (fun _ => fin)
        rcases hs with hs | hs
        · exact absurd hs q1
        · have := hs q2 q3 q4 q5
          rw [nL_60, nI_eq (by omega) (by omega)] at q0
          omega
      refine Rx_if (fun _ => f58 _ (Or.inl rfl)) (fun p1 => ?_)
      refine Rx_rd (h_st hw1) ?_
      refine Rx_if (fun _ => f58 _ (Or.inl rfl)) (fun p2 => ?_)
      refine Rx_if (fun _ => f58 _ (Or.inl rfl)) (fun p3 => ?_)
      refine Rx_rd (h_st hw1) ?_
      refine Rx_if (fun _ => f58 _ (Or.inl rfl)) (fun p4 => ?_)
      refine Rx_if (fun _ => f58 _ (Or.inl rfl)) (fun p5 => ?_)
      refine Rx_if (fun _ => f58 _ (Or.inl rfl)) (fun p6 => ?_)
      refine Rx_if (fun _ => f58 _ (Or.inl rfl)) (fun p7 => ?_)
      refine Rx_if (fun _ => f58 _ (Or.inl rfl)) (fun p8 => ?_)
      refine f58 _ (Or.inr (fun p9 p10 p11 p12 hb => hg ⟨hb, ?_⟩))
      rw [nL_120] at p6 p8
      rw [nL_1439] at p10 p12
      have lt : ∀ {x : Int32} {m : Nat}, m < 2 ^ 31 → ¬ x < 0 → ¬ nI m ≤ x → ∃ n, n < m ∧ x = nI n := fun {x m} hm a b => by
        obtain ⟨n, n1, rfl⟩ := nI_of a
        rw [nI_leI hm n1] at b
        exact ⟨n, by omega, rfl⟩
      have le : ∀ {x : Int32} {m : Nat}, m < 2 ^ 31 → ¬ x < 0 → ¬ nI m < x → ∃ n, n ≤ m ∧ x = nI n := fun {x m} hm a b => by
        obtain ⟨n, n1, rfl⟩ := nI_of a
        rw [nI_ltI hm n1] at b
        exact ⟨n, by omega, rfl⟩
      refine ⟨lt (by omega) p1 p2, lt (by omega) p3 p4, le (by omega) p5 p6, le (by omega) p7 p8, le (by omega) p9 p10, ?_⟩
      obtain ⟨n, n1, rfl⟩ := nI_of p11
      rw [nI_leI n1 (by omega)] at p12
      exact ⟨n, p12, rfl⟩
end BOX4
