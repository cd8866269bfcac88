section TRAIN3
variable {σ κ τ μ : SG} {z : BB} {w : PS} {y : LY} {h h' : AH}
theorem ClsH.id {f : Nat → Nat → Nat → Mo Int32} {v : RS} (h : ∀ (y : LY) (mi : Nat) (κ τ μ : SG) (z : BB) (w : PS) (h0 : AH), Wd σ κ τ μ z w → Rep y w h0 → f (yt0 y) mi (adO y 6 0) h0 = some (v, h0)) : ClsH f σ σ v := by
  intro y mi κ τ μ z w h0 hw hr c0 c1
  exact ⟨y, κ, z, w, h0, h y mi κ τ μ z w h0 hw hr, ⟨rfl, rfl, c0, c1⟩, hw, hr, by omega, by omega, rfl⟩
theorem cls_train (hv : INV3 σ) {v : Nat} (h1 : 1 ≤ v) (h40 : v ≤ 40) (hn : σ 0 2 0 < 16) : ClsH (fun t0 mi a => f_X5_train t0 mi a (nI v)) σ (trS σ v) (.inl (nI (σ 0 2 0))) := by
  have wf := hv.1.1
  intro y mi κ τ μ z w h hw hr c0 c1
  have eF : w.2.2.1 0 0 2 = nI (σ 0 2 0) := hw.cr.tr
  have enT : (w.2.2.1 0 0 2).toNatClampNeg = σ 0 2 0 := by rw [eF, nI_clamp (by omega)]
  have o6 := (hr.2.1 6 0 rfl).1
  have o3 := hr.2.1 3 0 rfl
  have o0 := hr.2.1 0 0 rfl
  have l3 : yB y + 1 < h.1 := hr.lt o3.1
  have l0 : yB y + 3 < h.1 := hr.lt o0.1
  have b1 := hr.1.1
  have b2 := hr.1.2.1
  have b3 := hw.1.1
  have b4 := hw.1.2.1
  obtain ⟨h2, i1, i2, i3, i4, i5, i6⟩ := x3init (t0 := yt0 y) (mi := mi) (x := nI v) (h := (h.1 + 1, h.2.1 + 6, va_up h.2.2 h.1 (some (.inr (4, [.int 0, .null, .null, .null, .int 0, .int 0]))))) (a := h.1) up_self (Nat.lt_succ_self _)
  dsimp only at i2 i3 i4 i5 i6
  have fr2 : ∀ x, x < h.1 → h2.2.2 x = h.2.2 x := fun x hx => by rw [i6 x (by omega) (by omega)]; exact va_up_ne _ _ (by omega)
  have z2 : ∀ x, h2.1 ≤ x → h2.2.2 x = none := fun x hx => by rw [i6 x (by omega) (by omega), va_up_ne _ _ (by omega)]; exact hr.1.2.2.1 x (by omega)
  obtain ⟨h', e', c', f', r1, r2, r3, r4, r5, r6, r7, r8⟩ := hr.add (mi := mi) (v := h.1) (Or.inl rfl) (by omega) fr2 z2 i4 (Or.inr rfl) c0 (by rw [enT]; omega)
  rw [enT] at r2 r3 r4 r7
  have r7' : h'.2.2 (yB y + 3) = some (.inr (0, [.int (w.2.2.1 0 0 0 + 1), .ref e', .int (nI (σ 0 2 0 + 1))])) := r7
  have ne3 : yB y + 1 ≠ e' := by
    rcases r5 with q | q
    · intro u
      have q1 := q.2.2.1
      rw [← u] at q1
      have q2 : yR y (yB y + 1) = (0, 3, 0) := o3.2
      rw [q2] at q1
      cases q1
    · omega
  have key : vc (adO y 3 0) 3 (f_X2_addTrain (yt0 y) mi (adO y 3 0) (nI v)) h = some (.inl (nI (σ 0 2 0)), h') := by
    rw [vc_eq o3.1]
    unfold f_X2_addTrain
    rw [bnd_eq (gA_eq (v := adO y 0 0) o3.1 rfl), bnd_eq (siz_eq (n := nI (σ 0 2 0)) (by rw [← eF]; exact o0.1))]
    rw [nL_16, if_pos (by rw [nI_ltI (by omega) (by omega)]; exact hn)]
    rw [bnd_eq (gA_eq (v := adO y 0 0) o3.1 rfl)]
    refine (bnd_eq (v := h.1) (h1 := (h.1 + 1, h.2.1 + 6, va_up h.2.2 h.1 (some (.inr (4, [.int 0, .null, .null, .null, .int 0, .int 0]))))) rfl).trans ?_
    rw [bnd_eq i1, bnd_eq ((vc_eq (a := adO y 0 0) ((fr2 _ l0).trans o0.1)).trans r1)]
    have o3' : h'.2.2 (adO y 3 0) = some (.inr (3, fds y w.2.2.1 3 0)) := by
      rw [r8 (adO y 3 0) ne3 (show yB y + 1 ≠ yB y + 3 by omega)]
      exact (fr2 _ l3).trans o3.1
    rw [bnd_eq (gA_eq (v := adO y 0 0) o3' rfl), bnd_eq (siz_eq r7), nL_1, nI_sub (by omega), Nat.add_sub_cancel]
    rfl
  refine ⟨yTr y (σ 0 2 0) h.1 e' c', κ, (h'.1 - yB y, h'.2.1, z.2.2), (h'.1 - yB y, h'.2.1, FTr w.2.2.1 (σ 0 2 0) (nI v), w.2.2.2.1, w.2.2.2.2), h', ?_, ⟨rfl, rfl, r2.2.2, c1⟩, ⟨⟨rfl, rfl, hw.1.2.2⟩, CR_tr hw.cr hn, hw.mr.frame (fun k => by simp [FTr, u3]) (fun _ _ => rfl)⟩, hr.train (f := f') enT (by omega) ?_ ?_ ⟨r2.1, r2.2.1⟩ r3 r4 ?_ r6 r7' ?_ ?_ ?_ ?_, ?_, ?_, rfl⟩
  · show f_X5_train (yt0 y) mi (adO y 6 0) (nI v) h = _
    unfold f_X5_train X5_train_b23
    rw [nL_1, nL_40, if_neg (by rw [nI_ltI (by omega) (by omega)]; omega), if_neg (by rw [nI_ltI (by omega) (by omega)]; omega)]
    rw [bnd_eq (gA_eq (v := adO y 3 0) o6 rfl), bnd_eq key]
    rfl
  · have f := wf.freshT (σ 0 2 0) (Nat.le_refl _)
    exact ⟨by rw [hw.cr.stops, f.1]; rfl, by rw [hw.cr.canc, f.2.1]; rfl⟩
  · intro k hk
    have f := (wf.freshT (σ 0 2 0) (Nat.le_refl _)).2.2.2
    funext j
    rcases hk with rfl | rfl | rfl
    · rw [hw.cr.sta, (f j).1]; rfl
    · rw [hw.cr.min, (f j).2.1]; rfl
    · rw [hw.cr.load, (f j).2.2]
  · rcases r5 with q | q
    · exact Or.inl ⟨q.1, q.2.1, q.2.2.1, by rw [q.2.2.2.1, i2]⟩
    · exact Or.inr ⟨by rw [q.1, i2], by rw [q.2.1, i2]⟩
  · rw [r8 h.1 (by rcases r5 with q | q <;> omega) (show h.1 ≠ yB y + 3 by omega)]
    exact i4
  · intro x q1 q2
    rw [r8 x (by rcases r5 with q | q <;> omega) (show x ≠ yB y + 3 by omega)]
    exact i5 x (by omega) (by omega)
  · intro x q1 q2 q3
    rw [r8 x q2 q3]
    exact fr2 x q1
  · intro x hx
    rw [r8 x (by rcases r5 with q | q <;> omega) (show x ≠ yB y + 3 by rcases r5 with q | q <;> omega)]
    exact z2 x (by rcases r5 with q | q <;> omega)
  · show h'.1 - yB y ≤ z.1 + 6
    rcases r5 with q | q <;> omega
  · show h'.2.1 ≤ z.2.1 + 200
    rcases r5 with q | q <;> omega
theorem op_train (hv : INV3 σ) (x : Int32) : Op1H (fun t0 mi a => f_X5_train t0 mi a x) (fun t0 mi a => f_X6_train t0 mi a x) σ := by
  have wf := hv.1.1
  have htr := wf.tr
  by_cases hx : ∃ v, 1 ≤ v ∧ v ≤ 40 ∧ x = nI v
  · obtain ⟨v, h1, h40, rfl⟩ := hx
    by_cases hn : σ 0 2 0 < 16
    · refine ⟨nI (σ 0 2 0), _, INV3_tr hv hn h40, cls_train hv h1 h40 hn, RfrH.of (fun y t0 mi => Lf_f_X6_train _) (fun σc κ μ z w hm hw => ?_)⟩
      unfold p_X6_train
      rw [nL_0, nL_1, nL_16, nL_40]
      refine Rx_set (t_code hw) (fun w1 hw1 => ?_)
      refine Rx_rd (h_tr hw1) ?_
      refine Rx_neg (by rw [nI_eq (by omega) (by omega)]; omega) ?_
      refine Rx_neg (by rw [nI_ltI (by omega) (by omega)]; omega) ?_
      refine Rx_pos (by rw [nI_leI (by omega) (by omega)]; omega) ?_
      refine Rx_rd (g_chk7 hw1) ?_
      refine Rx_rd (h_tr hw1) ?_
      refine Rx_set (t_room hw1 hn) (fun w2 hw2 => ?_)
      refine Rx_rd (h_tr hw2) ?_
      rw [us_ne (show 0 ≠ 2 by decide), nI_add]
      refine Rx_set (t_tr hw2) (fun w3 hw3 => ?_)
      refine Rx_rd (h_tr hw3) ?_
      rw [us_self, nI_sub (by omega), Nat.add_sub_cancel]
      exact Rx_rt ⟨_, hw3, hm.code 0, rfl, us_code⟩
    · refine ⟨-1, σ, hv, ClsH.id (fun y mi κ τ μ z w h hw hr => ?_), RfrH.of (fun y t0 mi => Lf_f_X6_train _) (fun σc κ μ z w hm hw => ?_)⟩
      · have o6 := (hr.2.1 6 0 rfl).1
        have o3 := hr.2.1 3 0 rfl
        have o0 := hr.2.1 0 0 rfl
        have eF : w.2.2.1 0 0 2 = nI (σ 0 2 0) := hw.cr.tr
        show f_X5_train (yt0 y) mi (adO y 6 0) (nI v) h = _
        unfold f_X5_train X5_train_b23 f_X2_addTrain
        rw [nL_1, nL_40, if_neg (by rw [nI_ltI (by omega) (by omega)]; omega), if_neg (by rw [nI_ltI (by omega) (by omega)]; omega)]
        rw [bnd_eq (gA_eq (v := adO y 3 0) o6 rfl)]
        refine bnd_eq (f := rt) (v := -1) ?_
        rw [vc_eq o3.1, bnd_eq (gA_eq (v := adO y 0 0) o3.1 rfl), bnd_eq (siz_eq (n := nI (σ 0 2 0)) (by rw [← eF]; exact o0.1))]
        rw [nL_16, if_neg (by rw [nI_ltI (by omega) (by omega)]; exact hn)]
        rfl
      · unfold p_X6_train p_X6_train_b25
        rw [nL_0, nL_16]
        refine Rx_set (t_code hw) (fun w1 hw1 => ?_)
        refine Rx_rd (h_tr hw1) ?_
        refine Rx_pos (by rw [nI_eq (by omega) (by omega)]; omega) ?_
        exact Rx_rt ⟨_, hw1, hm.code 0, rfl, us_code⟩
  · have hx' : x < 1 ∨ 40 < x := by
      rcases i_or x with q | ⟨v, q1, rfl⟩
      · refine Or.inl ?_
        rw [i_lt] at q ⊢
        have e0 : (0 : Int32).toInt = 0 := rfl
        have e1 : (1 : Int32).toInt = 1 := rfl
        omega
      · rw [nL_1, nL_40, nI_ltI (by omega) (by omega), nI_ltI (by omega) (by omega)]
        rcases Nat.lt_or_ge v 1 with u | u
        · exact Or.inl u
        · refine Or.inr ?_
          rcases Nat.lt_or_ge 40 v with u2 | u2
          · exact u2
          · exact absurd ⟨v, u, u2, rfl⟩ hx
    refine ⟨-1, σ, hv, ClsH.id (fun y mi κ τ μ z w h hw hr => ?_), RfrH.of (fun y t0 mi => Lf_f_X6_train _) (fun σc κ μ z w hm hw => ?_)⟩
    · show f_X5_train (yt0 y) mi (adO y 6 0) x h = _
      unfold f_X5_train X5_train_b22 X5_train_b23
      by_cases q : x < 1
      · rw [if_pos q]; rfl
      · rw [if_neg q, if_pos (hx'.resolve_left q)]; rfl
    · unfold p_X6_train p_X6_train_b25
      rw [nL_0]
      refine Rx_set (t_code hw) (fun w1 hw1 => ?_)
      have fin : Rx (prt (-1 : Int32)) w1 (fun v w' => ∃ μ', Wd σc κ σ μ' z w' ∧ HM μ' ∧ v = -1 ∧ μ' 5 0 0 = 0) NE := Rx_rt ⟨_, hw1, hm.code 0, rfl, us_code⟩
      refine Rx_rd (h_tr hw1) ?_
      refine Rx_if (fun _ => fin) (fun _ => ?_)
      refine Rx_if (fun _ => fin) (fun q => ?_)
      refine Rx_neg (fun u => ?_) fin
      have q2 := hx'.resolve_left q
      rw [i_lt] at q2
      rw [i_le] at u
      omega
end TRAIN3
