section EMPTY2
variable {σ κ τ μ : SG} {z : BB} {w : PS} {y : LY} {h h' : AH}
def goodE (σ : SG) (b : Nat) (x : Int32) : Prop := σ 8 b 6 = 0 ∧ (σ 9 (2 * b) 5 ≠ 0 ∧ arrS σ (2 * b) ≤ σ 0 0 0) ∧ ∃ n, (σ 0 0 0 ≤ n ∧ n ≤ 1439) ∧ x = nI n
def mkEmp (t0 mi a : Nat) (x2 : Int32) : Mo Int32 :=
    bnd (gA' a 1 0) fun v48 =>
    bnd (vc v48 5 (f_X4_turned t0 mi v48 x2 (1439 : Int32))) fun v55 =>
    bnd (pV a 1 1 (.ref v55)) fun _ =>
    rtZ (1 : Int32)
theorem emp_walk {t0 mi : Nat} {x1 x2 : Int32} {G : Option ((Int32 ⊕ String) × AH) → Prop} (wf : WF σ) (hw : Wd σ κ τ μ z w) (hr : Rep y w h) (hthr : nnB σ x1 → ∀ h1, Rep y (w.1 + 1, w.2.1 + 6, w.2.2) h1 → G (some (.inr eN, h1)))
    (hneg : ∀ b, b < σ 0 3 0 → x1 = nI b → ¬ goodE σ b x2 → ∀ h1, Rep y w h1 → G (some (.inl 0, h1))) (hpos : ∀ b, b < σ 0 3 0 → x1 = nI b → goodE σ b x2 → ∀ h1, Rep y w h1 → G (mkEmp t0 mi (adO y 1 b) x2 h1)) : G (f_X5_empty t0 mi (adO y 6 0) x1 x2 h) := by
  have hbx := wf.bx
  have hnow := wf.now
  have rz : ∀ g : AH, rtZ (0 : Int32) g = some (.inl 0, g) := fun g => by simp [rtZ]
  unfold f_X5_empty X5_empty_b27 X5_empty_b44
  rcases isB_or (σ := σ) x1 with hx | ⟨b, hb, rfl⟩
  · obtain ⟨x, h1, e1, e2, e3⟩ := Lft_vc (c := 6) (i := 0) (Lf_f_X5_boxOf (t0 := t0) (mi := mi) x1) w h hr (.inr eN) (w.1 + 1, w.2.1 + 6, w.2.2) (by rw [pbnd_eq (g_chk6 hw)]; exact q_boxOfN wf hw hx)
    cases x with
    | inl _ => cases e2
    | inr E =>
      have e2 : E = eN := e2
      subst e2
      have : ∀ f : Nat → Mo Int32, bnd (vc (adO y 6 0) 6 (f_X5_boxOf t0 mi (adO y 6 0) x1)) f h = some (.inr eN, h1) := fun f => by simp only [bnd, e1]
      rw [this]
      exact hthr hx h1 e3
  · have hok : okW σ (2 * b) := ⟨by omega, Or.inl (by omega)⟩
    refine bnd_lft (Lft_vc (Lf_f_X5_boxOf (nI b))) (by rw [pbnd_eq (g_chk6 hw)]; exact q_boxOf wf hw hb) hr (fun a h1 ea hr => ?_)
    subst ea
    refine bnd_lft (Lft_vc (Lf_f_X0_isEmpty b)) (by rw [pbnd_eq (g_chk1 hw hb)]; exact r_isEmpty hw hb) hr (fun a h1 ea hr => ?_)
    subst ea
    by_cases h6 : σ 8 b 6 = 0
    · rw [bI_f (fun q => q h6), if_pos rfl]
      have o1 := (hr.2.1 1 b (hw.v1 hb)).1
      have o6 := (hr.2.1 6 0 rfl).1
      rw [bnd_eq (gA_eq (v := adO y 5 (2 * b)) o1 rfl), bnd_eq (gI_eq (v := w.2.2.1 6 0 4) o6 rfl), hw.cr.now]
      refine bnd_lft (Lft_vc (Lf_f_X4_hasArrivedBy (2 * b) (nI (σ 0 0 0)))) (by rw [pbnd_eq (g_chk5 hw hok)]; exact r_arrivedBy hw wf hok (by omega)) hr (fun a h1 ea hr => ?_)
      subst ea
      by_cases ha : σ 9 (2 * b) 5 ≠ 0 ∧ arrS σ (2 * b) ≤ σ 0 0 0
      · rw [bI_t ha, if_neg (by decide)]
        obtain ⟨v5, e5, i5⟩ := minute_or (w := w) x2
        refine bnd_lft (Lf_f_X5_isMinute x2) e5 hr (fun a h1 ea hr => ?_)
        subst ea
        by_cases q5 : a = 0
        · rw [if_pos q5, rz]
          refine hneg b hb rfl (fun q => i5.mp q5 ?_) h1 hr
          obtain ⟨n, n1, n2⟩ := q.2.2
          exact ⟨n, n1.2, n2⟩
        rw [if_neg q5]
        have o6 := (hr.2.1 6 0 rfl).1
        rw [bnd_eq (gI_eq (v := w.2.2.1 6 0 4) o6 rfl), hw.cr.now]
        obtain ⟨n, n1, rfl⟩ : ∃ n, n ≤ 1439 ∧ x2 = nI n := Classical.byContradiction (fun u => q5 (i5.mpr u))
        by_cases hn : σ 0 0 0 ≤ n
        · rw [if_pos ((nI_leI (by omega) (by omega)).mpr hn)]
          exact hpos b hb rfl ⟨h6, ha, n, ⟨hn, n1⟩, rfl⟩ h1 hr
        · rw [if_neg (fun u => hn ((nI_leI (by omega) (by omega)).mp u)), rz]
          refine hneg b hb rfl (fun q => ?_) h1 hr
          obtain ⟨m, m1, m2⟩ := q.2.2
          rw [nI_eq (by omega) (by omega)] at m2
          omega
      · rw [bI_f ha, if_pos rfl, rz]
        exact hneg b hb rfl (fun q => ha q.2.1) h1 hr
    · rw [bI_t h6, if_neg (by decide), rz]
      exact hneg b hb rfl (fun q => h6 q.1) h1 hr
theorem FT_em {b r : Nat} (wf : WF σ) (hb : b < σ 0 3 0) (h6 : σ 8 b 6 = 0) : (fun (s κ' : SG) => FT s κ' (2 * b + 1) 0 = nI (σ 8 b 3) ∧ FT s κ' (2 * b + 1) 1 = nI (σ 8 b 4) ∧ FT s κ' (2 * b + 1) 2 = nI r ∧ FT s κ' (2 * b + 1) 3 = nI (σ 8 b 0) ∧ FT s κ' (2 * b + 1) 4 = nI (σ 8 b 1) ∧ FT s κ' (2 * b + 1) 5 = nI 1439 ∧ FT s κ' (2 * b + 1) 7 = 0 ∧ FT s κ' (2 * b + 1) 8 = 0 ∧ FT s κ' (2 * b + 1) 9 = -1 ∧ FT s κ' (2 * b + 1) 10 = -1 ∧ FT s κ' (2 * b + 1) 11 = -1 ∧ FT s κ' (2 * b + 1) 12 = 0) (emS σ b r) (kEm κ b) := by
  have e1 : ¬ (2 * b + 1) % 2 = 0 := by omega
  have e2 : (2 * b + 1) / 2 = b := by omega
  have f := wf.freshW (2 * b + 1) (Or.inr ⟨by omega, by rw [e2]; exact h6⟩)
  have f3 := f.2.2.2.1 (by omega)
  refine ⟨?_, ?_, ?_, ?_, ?_, ?_, ?_, ?_, ?_, ?_, ?_, ?_⟩
  · show nI (fromS _ _) = _
    unfold fromS; rw [if_neg e1, e2, em_o (by decide) (by decide)]
  · show nI (wfromS _ _) = _
    unfold wfromS; rw [if_neg e1, e2, em_o (by decide) (by decide)]
  · show nI (readyS _ _) = _
    unfold readyS; rw [if_neg e1, e2, em_7]
  · show nI (toS _ _) = _
    unfold toS; rw [if_neg e1, e2, em_o (by decide) (by decide)]
  · show nI (wtoS _ _) = _
    unfold wtoS; rw [if_neg e1, e2, em_o (by decide) (by decide)]
  · show nI (dueS _ _) = _
    unfold dueS; rw [if_neg e1]
  · show nI (emS σ b r 9 (2 * b + 1) 2) = _
    rw [em_k (by decide), f.2.1]; rfl
  · show nI (emS σ b r 9 (2 * b + 1) 0) = _
    rw [em_k (by decide), f.1]; rfl
  · show m1 (emS σ b r 9 (2 * b + 1) 5) = _
    rw [em_k (by decide), f.2.2.1]; rfl
  · show m1 (emS σ b r 9 (2 * b + 1) 3) = _
    rw [em_k (by decide), f3]; rfl
  · show (if emS σ b r 9 (2 * b + 1) 3 = 0 then -1 else _) = _
    rw [if_pos (by rw [em_k (by decide)]; exact f3)]
  · show nI (kEm κ b 3 (2 * b + 1) 0) = _
    unfold kEm
    rw [if_pos ⟨rfl, rfl, rfl⟩]; rfl
theorem cls_empty (hv : INV3 σ) {b r : Nat} (hb : b < σ 0 3 0) (hr1 : r ≤ 1439) (hg : goodE σ b (nI r)) : ClsH (fun t0 mi a => f_X5_empty t0 mi a (nI b) (nI r)) σ (emS σ b r) (.inl 1) := by
  have wf := hv.1.1
  have hbx := wf.bx
  have h6 := hg.1
  have inv := INV3_em hv hb h6 hr1
  intro y mi κ τ μ z w h hw hr c0 c1
  refine emp_walk (G := fun o => ∃ y' κ' z' w' h', o = some (_, h') ∧ (yB y' = yB y ∧ yt0 y' = yt0 y ∧ yC y' 0 ≤ 100 ∧ yC y' 1 ≤ 100) ∧ Wd (emS σ b r) κ' τ μ z' w' ∧ Rep y' w' h' ∧ z'.1 ≤ z.1 + 6 ∧ z'.2.1 ≤ z.2.1 + 200 ∧ z'.2.2 = z.2.2) wf hw hr (fun q => ?_) (fun b' hb' e q => ?_) (fun b' hb' e _ h hr => ?_)
  · exfalso
    rcases q with q | ⟨n, n1, n2, n3⟩
    · exact nI_pos (by omega) q
    · rw [nI_eq (by omega) n1] at n3; omega
  · rw [nI_eq (by omega) (by omega)] at e
    subst e
    exact absurd hg q
  rw [nI_eq (by omega) (by omega)] at e
  subst e
  have hok : okW σ (2 * b) := ⟨by omega, Or.inl (by omega)⟩
  have eB : nB w.2.2.1 = σ 0 3 0 := hw.eB
  have o1 := hr.2.1 1 b (hw.v1 hb)
  have o5 := hr.2.1 5 (2 * b) (hw.v5 hok)
  have l1 := hr.lt o1.1
  have l5 := hr.lt o5.1
  have b1 := hr.1.1
  have b2 := hr.1.2.1
  have b3 := hw.1.1
  have b4 := hw.1.2.1
  have e2 : (2 * b) / 2 = b := by omega
  have e20 : (2 * b) % 2 = 0 := by omega
  have k0 : w.2.2.1 5 (2 * b) 0 = nI (σ 8 b 0) := by rw [hw.cr.from]; unfold fromS; rw [if_pos e20, e2]
  have k1 : w.2.2.1 5 (2 * b) 1 = nI (σ 8 b 1) := by rw [hw.cr.wfrom]; unfold wfromS; rw [if_pos e20, e2]
  have k3 : w.2.2.1 5 (2 * b) 3 = nI (σ 8 b 3) := by rw [hw.cr.to]; unfold toS; rw [if_pos e20, e2]
  have k4 : w.2.2.1 5 (2 * b) 4 = nI (σ 8 b 4) := by rw [hw.cr.wto]; unfold wtoS; rw [if_pos e20, e2]
  obtain ⟨h3', i1, i2, i3, i4, i5, i6⟩ := x4init (t0 := yt0 y) (mi := mi) (x1 := nI (σ 8 b 3)) (x2 := nI (σ 8 b 4)) (x3 := nI r) (x4 := nI (σ 8 b 0)) (x5 := nI (σ 8 b 1)) (x6 := (1439 : Int32)) (h := (h.1 + 1, h.2.1 + 13, va_up h.2.2 h.1 (some (.inr (5, [.int 0, .int 0, .int 0, .int 0, .int 0, .int 0, .null, .int 0, .int 0, .int 0, .int 0, .int 0, .int 0]))))) (a := h.1) up_self (Nat.lt_succ_self _)
  dsimp only at i2 i3 i4 i5 i6
  have fr3 : ∀ x, x < h.1 ∨ h.1 + 2 ≤ x → h3'.2.2 x = h.2.2 x := fun x hx => by
    rw [i6 x (by omega) (by omega), va_up_ne _ _ (by omega)]
  have ft := FT_em (κ := κ) (b := b) (r := r) wf hb h6
  have hmr : MR τ μ (FEm w.2.2.1 (emS σ b r) (kEm κ b) b) w.2.2.2.1 := by
    refine hw.mr.frame (fun k => ?_) (fun _ _ => rfl)
    exact FEm_o (by omega) (by omega)
  have f0 : w.2.2.1 1 b 1 = 0 := by rw [hw.cr.emp, h6]; rfl
  have o1' : h3'.2.2 (adO y 1 b) = some (.inr (1, [.ref (adO y 5 (2 * b)), .null])) := by
    rw [fr3 _ (Or.inl l1), o1.1]
    simp only [fds, f0, if_true]
  obtain ⟨h', hh1, hh2, hh3, hh4, hh5⟩ : ∃ h' : AH, pV (adO y 1 b) 1 1 (.ref h.1) h3' = some (.inl (), h') ∧ h'.1 = h.1 + 2 ∧ h'.2.1 = h.2.1 + 22 ∧ h'.2.2 (adO y 1 b) = some (.inr (1, [.ref (adO y 5 (2 * b)), .ref h.1])) ∧ ∀ x, x ≠ adO y 1 b → h'.2.2 x = h3'.2.2 x := by
    refine ⟨_, pV_eq o1' (by simp), ?_, ?_, hset_self, fun x hx => hset_ne hx⟩
    · show h3'.1 = _
      omega
    · show h3'.2.1 = _
      omega
  refine ⟨yEm y b h.1, kEm κ b, (h'.1 - yB y, h'.2.1, z.2.2), (h'.1 - yB y, h'.2.1, FEm w.2.2.1 (emS σ b r) (kEm κ b) b, w.2.2.2.1, w.2.2.2.2), h', ?_, ⟨rfl, rfl, c0, c1⟩, ⟨⟨rfl, rfl, hw.1.2.2⟩, CR_em hw.cr inv, hmr⟩, hr.emp (by rw [eB]; exact hb) f0 (fun c i k => FEm_o) FEm_1 ?_ hh2 hh4 ?_ ?_ ?_ ?_, ?_, ?_, rfl⟩
  · unfold mkEmp
    rw [bnd_eq (gA_eq (v := adO y 5 (2 * b)) o1.1 rfl)]
    have key : vc (adO y 5 (2 * b)) 5 (f_X4_turned (yt0 y) mi (adO y 5 (2 * b)) (nI r) (1439 : Int32)) h = some (.inl h.1, h3') := by
      rw [vc_eq o5.1]
      unfold f_X4_turned
      refine (bnd_eq (v := h.1) (h1 := (h.1 + 1, h.2.1 + 13, va_up h.2.2 h.1 (some (.inr (5, [.int 0, .int 0, .int 0, .int 0, .int 0, .int 0, .null, .int 0, .int 0, .int 0, .int 0, .int 0, .int 0]))))) rfl).trans ?_
      have o5' : (va_up h.2.2 h.1 (some (.inr (5, [.int 0, .int 0, .int 0, .int 0, .int 0, .int 0, .null, .int 0, .int 0, .int 0, .int 0, .int 0, .int 0])))) (adO y 5 (2 * b)) = some (.inr (5, fds y w.2.2.1 5 (2 * b))) := by
        rw [va_up_ne _ _ (by omega)]
        exact o5.1
      rw [bnd_eq (gI_eq (h := (_, _, _)) (v := w.2.2.1 5 (2 * b) 3) o5' rfl), bnd_eq (gI_eq (h := (_, _, _)) (v := w.2.2.1 5 (2 * b) 4) o5' rfl), bnd_eq (gI_eq (h := (_, _, _)) (v := w.2.2.1 5 (2 * b) 0) o5' rfl), bnd_eq (gI_eq (h := (_, _, _)) (v := w.2.2.1 5 (2 * b) 1) o5' rfl), k0, k1, k3, k4, bnd_eq i1]
      rfl
    rw [bnd_eq key, bnd_eq hh1]
    simp [rtZ]
  · funext j
    rw [hw.cr.leg, (wf.freshW (2 * b + 1) (Or.inr ⟨by omega, by rw [show (2 * b + 1) / 2 = b by omega]; exact h6⟩)).2.2.2.2 j]; rfl
  · rw [hh5 h.1 (by omega), i4]
    simp only [FEm_5]
    obtain ⟨t1, t2, t3, t4, t5, t6, t7, t8, t9, t10, t11, t12⟩ := ft
    rw [t1, t2, t3, t4, t5, t6, t7, t8, t9, t10, t11, t12]
    rfl
  · rw [hh5 _ (by omega)]
    exact i5
  · intro x q1 q2
    rw [hh5 x q2]
    exact fr3 x (Or.inl q1)
  · intro x hx
    rw [hh5 x (by omega), fr3 x (by omega)]
    exact hr.1.2.2.1 x (by omega)
  · show h'.1 - yB y ≤ z.1 + 6
    omega
  · show h'.2.1 ≤ z.2.1 + 200
    omega
theorem op_empty (hv : INV3 σ) (x1 x2 : Int32) : OpH (fun t0 mi a => f_X5_empty t0 mi a x1 x2) (fun t0 mi a => f_X6_empty t0 mi a x1 x2) cf1 sN σ := by
  have wf := hv.1.1
  have hbx := wf.bx
  have hnow := wf.now
  rcases isB_or (σ := σ) x1 with hx | ⟨b, hb, rfl⟩
  · refine ⟨.inr eN, rfl, σ, hv, ?_, RfrH.of (fun y t0 mi => Lf_f_X6_empty _ _) (fun σc κ μ z w hm hw => ?_)⟩
    · intro y mi κ τ μ z w h hw hr c0 c1
      refine emp_walk (G := fun o => ∃ y' κ' z' w' h', o = some (_, h') ∧ (yB y' = yB y ∧ yt0 y' = yt0 y ∧ yC y' 0 ≤ 100 ∧ yC y' 1 ≤ 100) ∧ Wd σ κ' τ μ z' w' ∧ Rep y' w' h' ∧ z'.1 ≤ z.1 + 6 ∧ z'.2.1 ≤ z.2.1 + 200 ∧ z'.2.2 = z.2.2) wf hw hr (fun _ h1 hr1 => ⟨y, κ, _, _, h1, rfl, ⟨rfl, rfl, c0, c1⟩, hw.thr, hr1, by show z.1 + 1 ≤ _; omega, by show z.2.1 + 6 ≤ _; omega, rfl⟩) (fun b hb e _ => ?_) (fun b hb e _ => ?_)
      all_goals
        exfalso
        subst e
        rcases hx with q | ⟨n, n1, n2, n3⟩
        · exact nI_pos (by omega) q
        · rw [nI_eq (by omega) n1] at n3; omega
    · unfold p_X6_empty
      rw [nL_0]
      refine Rx_set (t_code hw) (fun w1 hw1 => ?_)
      refine Rx_assoc ?_
      refine Rx_rd (g_chk7 hw1) ?_
      refine Rx_rd (q_isB hw1 wf hx) ?_
      refine Rx_pos rfl ?_
      refine Rx_assoc ?_
      refine Rx_rd (g_chk7 hw1) ?_
      exact Rx_cn (R_fail hw1) (fun v w2 ⟨_, hw2⟩ => Rx_rtZ0 ⟨_, hw2, (hm.code 0).code 1, us_code⟩)
  · by_cases hg : goodE σ b x2
    · obtain ⟨h6, ha, r, ⟨r1, r2⟩, rfl⟩ := hg
      have ec : cur σ b = 2 * b := if_pos h6
      refine ⟨.inl 1, trivial, emS σ b r, INV3_em hv hb h6 r2, cls_empty hv hb r2 ⟨h6, ha, r, ⟨r1, r2⟩, rfl⟩, RfrH.of (fun y t0 mi => Lf_f_X6_empty _ _) (fun σc κ μ z w hm hw => ?_)⟩
      unfold p_X6_empty
      rw [nL_0]
      refine Rx_set (t_code hw) (fun w1 hw1 => ?_)
      have hA := q_Marr hw1 wf (b := b) (by omega)
      rw [ec, if_neg ha.1] at hA
      have hab : arrS σ (2 * b) < 2 ^ 31 := by omega
      refine Rx_assoc ?_
      refine Rx_rd (g_chk7 hw1) ?_
      refine Rx_rd (q_isBy hw1 wf hb) ?_
      refine Rx_neg (by decide) ?_
      refine Rx_rd (g_chk7 hw1) ?_
      refine Rx_rd (h_emp hw1 (by omega)) ?_
      refine Rx_pos (by rw [h6]) ?_
      refine Rx_assoc ?_
      refine Rx_rd (g_chk7 hw1) ?_
      refine Rx_rd hA ?_
      refine Rx_neg (m1_lt _ hab) ?_
      refine Rx_assoc ?_
      refine Rx_rd (g_chk7 hw1) ?_
      refine Rx_rd hA ?_
      refine Rx_rd (h_now hw1) ?_
      refine Rx_neg (by rw [nI_ltI (by omega) hab]; omega) ?_
      refine Rx_rd (h_now hw1) ?_
      refine Rx_neg (by rw [nI_ltI (by omega) (by omega)]; omega) ?_
      refine Rx_pos (by rw [nL_1439, nI_leI (by omega) (by omega)]; exact r2) ?_
      refine Rx_rd (g_chk7 hw1) ?_
      obtain ⟨w2, e2, hw2⟩ := t_emp (v := 1) hw1 (show b < 60 by omega)
      refine Rx_rd (w' := w2) (v := ()) ((if_pos (Or.inr rfl)).trans e2) ?_
      refine Rx_rd (g_chk7 hw2) ?_
      refine Rx_set (t_rback hw2 (by omega)) (fun w3 hw3 => ?_)
      exact Rx_rtZ1 ⟨_, hw3, hm.code 0, rfl, us_code⟩
    · refine ⟨.inl 0, trivial, σ, hv, ?_, RfrH.of (fun y t0 mi => Lf_f_X6_empty _ _) (fun σc κ μ z w hm hw => ?_)⟩
      · intro y mi κ τ μ z w h hw hr c0 c1
        refine emp_walk (G := fun o => ∃ y' κ' z' w' h', o = some (_, h') ∧ (yB y' = yB y ∧ yt0 y' = yt0 y ∧ yC y' 0 ≤ 100 ∧ yC y' 1 ≤ 100) ∧ Wd σ κ' τ μ z' w' ∧ Rep y' w' h' ∧ z'.1 ≤ z.1 + 6 ∧ z'.2.1 ≤ z.2.1 + 200 ∧ z'.2.2 = z.2.2) wf hw hr (fun q => ?_) (fun _ _ _ _ h1 hr1 => ⟨y, κ, z, w, h1, rfl, ⟨rfl, rfl, c0, c1⟩, hw, hr1, by omega, by omega, rfl⟩) (fun b' hb' e q => ?_)
        · exfalso
          rcases q with q | ⟨n, n1, n2, n3⟩
          · exact nI_pos (by omega) q
          · rw [nI_eq (by omega) n1] at n3; omega
        · rw [nI_eq (by omega) (by omega)] at e
          subst e
          exact absurd q hg
      · unfold p_X6_empty p_X6_empty_b65
        rw [nL_0]
        refine Rx_set (t_code hw) (fun w1 hw1 => ?_)
        have fin : Rx (prtZ (nI 0)) w1 (fun v w' => ∃ μ', Wd σc κ σ μ' z w' ∧ HM μ' ∧ v = 0 ∧ μ' 5 0 0 = 0) NE := Rx_rtZ0 ⟨_, hw1, hm.code 0, rfl, us_code⟩
        have hA := q_Marr hw1 wf (b := b) (by omega)
        refine Rx_assoc ?_
        refine Rx_rd (g_chk7 hw1) ?_
        refine Rx_rd (q_isBy hw1 wf hb) ?_
        refine Rx_neg (by decide) ?_
        refine Rx_rd (g_chk7 hw1) ?_
        refine Rx_rd (h_emp hw1 (by omega)) ?_
        have h61 := (wf.box b).2.2.2.2.2.2.1
        refine Rx_if (fun q6 => ?_) (fun _ => fin)
        rw [nI_eq (by omega) (by omega)] at q6
        have ec : cur σ b = 2 * b := if_pos q6
        rw [ec] at hA
        refine Rx_assoc ?_
        refine Rx_rd (g_chk7 hw1) ?_
        refine Rx_rd hA ?_
        refine Rx_if (fun _ => fin) (fun q5 => ?_)
        by_cases h5 : σ 9 (2 * b) 5 = 0
        · rw [if_pos h5] at q5
          exact absurd rfl q5
        rw [if_neg h5] at hA
        have hab : arrS σ (2 * b) < 2 ^ 31 := by
          have a1 := (wf.way (2 * b)).2.2.2.2
          have a2 := (wf.fromb (2 * b)).2.2.2.2.1
          unfold arrS
          omega
        refine Rx_assoc ?_
        refine Rx_rd (g_chk7 hw1) ?_
        refine Rx_rd hA ?_
        refine Rx_rd (h_now hw1) ?_
        refine Rx_if (fun _ => fin) (fun q7 => ?_)
        rw [nI_ltI (by omega) hab] at q7
        refine Rx_rd (h_now hw1) ?_
        refine Rx_if (fun _ => fin) (fun q8 => ?_)
        refine Rx_if (fun q9 => ?_) (fun _ => fin)
        exfalso
        refine hg ⟨q6, ⟨h5, by omega⟩, ?_⟩
        rcases i_or x2 with q | ⟨n, n1, rfl⟩
        · refine absurd ?_ q8
          rw [i_lt] at q ⊢
          rw [nI_toInt (by omega)]
          have e0 : (0 : Int32).toInt = 0 := rfl
          omega
        · rw [nI_ltI n1 (by omega)] at q8
          rw [nL_1439, nI_leI n1 (by omega)] at q9
          exact ⟨n, ⟨by omega, q9⟩, rfl⟩
end EMPTY2
