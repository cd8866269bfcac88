/-! mark, count -/
def alk (σ : SG) (a b : Nat) : Prop := σ 9 (2 * a) 2 = σ 9 (2 * b) 2 ∧ ∀ j, j < 3 * σ 9 (2 * a) 2 → σ 10 (2 * a) j = σ 10 (2 * b) j
def isFL (σ : SG) (b a : Nat) : Prop := (σ 9 (2 * a) 5 ≠ 0 ∧ alk σ a b) ∧ ∀ a', a' < a → ¬ (σ 9 (2 * a') 5 ≠ 0 ∧ alk σ a' b)
noncomputable def mkN (σ : SG) : Nat → Nat
  | 0 => 0
  | n + 1 => mkN σ n + @ite _ (isFL σ n n) (Classical.propDecidable _) 1 0
section MARKS
variable {σ κ τ μ : SG} {z : BB} {w : PS}
theorem alk_refl (a : Nat) : alk σ a a := ⟨rfl, fun _ _ => rfl⟩
theorem alk_trans {a b c : Nat} (h : alk σ a b) (h' : alk σ b c) : alk σ a c := ⟨h.1.trans h'.1, fun j hj => (h.2 j hj).trans (h'.2 j (by rw [← h.1]; exact hj))⟩
theorem isFL_uniq {b a a' : Nat} (h : isFL σ b a) (h' : isFL σ b a') : a = a' := by
  rcases Nat.lt_trichotomy a a' with q | q | q
  · exact absurd h.1 (h'.2 a q)
  · exact q
  · exact absurd h'.1 (h.2 a' q)
theorem isFL_self {b a : Nat} (h : isFL σ b a) : isFL σ a a := ⟨⟨h.1.1, alk_refl a⟩, fun a' ha q => h.2 a' ha ⟨q.1, alk_trans q.2 h.1.2⟩⟩
theorem mkN_y {n : Nat} (h : isFL σ n n) : mkN σ (n + 1) = mkN σ n + 1 := by
  show mkN σ n + @ite _ (isFL σ n n) (Classical.propDecidable _) 1 0 = _
  rw [if_pos h]
theorem mkN_n {n : Nat} (h : ¬ isFL σ n n) : mkN σ (n + 1) = mkN σ n := by
  show mkN σ n + @ite _ (isFL σ n n) (Classical.propDecidable _) 1 0 = _
  rw [if_neg h]
  rfl
theorem mkN_le : ∀ n : Nat, mkN σ n ≤ n
  | 0 => Nat.le_refl _
  | n + 1 => by
    have := mkN_le n
    by_cases h : isFL σ n n
    · rw [mkN_y h]; omega
    · rw [mkN_n h]; omega
theorem L_same (wf : WF σ) (hw : Wd σ κ τ μ z w) {i k : Nat} (hi : okW σ i) (hk : okW σ k) : ∀ (n f j : Nat), j + n = 3 * σ 9 i 2 → n ≤ f → (∀ j', j' < j → σ 10 i j' = σ 10 k j') → Rx (p_X4_hasSameLegs_L15 i k (prtZ (1 : Int32)) (f + 1) (nI j)) w (fun v w' => w' = w ∧ ((v = 0 ∧ ∃ j', j' < 3 * σ 9 i 2 ∧ σ 10 i j' ≠ σ 10 k j') ∨ (v = 1 ∧ ∀ j', j' < 3 * σ 9 i 2 → σ 10 i j' = σ 10 k j'))) NE := by
  have hway := wf.way i
  intro n
  induction n with
  | zero =>
    intro f j h1 h2 h3
    rw [p_X4_hasSameLegs_L15]
    refine Rx_rd (g_many hw hi) ?_
    rw [nL_3, nI_mulI]
    refine Rx_pos (by rw [nI_leI (by omega) (by omega)]; omega) ?_
    exact Rx_rtZ1 ⟨rfl, Or.inr ⟨rfl, fun j' hj' => h3 j' (by omega)⟩⟩
  | succ n ih =>
    intro f j h1 h2 h3
    obtain ⟨f', rfl⟩ : ∃ f', f = f' + 1 := ⟨f - 1, by omega⟩
    have b1 := wf.legb i j
    have b2 := wf.legb k j
    rw [p_X4_hasSameLegs_L15]
    refine Rx_rd (g_many hw hi) ?_
    rw [nL_3, nI_mulI]
    refine Rx_neg (by rw [nI_leI (by omega) (by omega)]; omega) ?_
    refine Rx_rd (g_chk5 hw hi) ?_
    refine Rx_rd (g_leg hw hi (by omega)) ?_
    refine Rx_rd (g_chk5 hw hk) ?_
    refine Rx_rd (g_leg hw hk (by omega)) ?_
    refine Rx_if (fun h => ?_) (fun h => ?_)
    · rw [nI_eq (by omega) (by omega)] at h
      rw [nI_1]
      refine ih f' (j + 1) (by omega) (by omega) (fun j' hj' => ?_)
      by_cases q : j' = j
      · subst q; exact h
      · exact h3 j' (by omega)
    · rw [nI_eq (by omega) (by omega)] at h
      exact Rx_rtZ0 ⟨rfl, Or.inl ⟨rfl, j, by omega, h⟩⟩
theorem R_same (wf : WF σ) (hw : Wd σ κ τ μ z w) {a b : Nat} (ha : a < σ 0 3 0) (hb : b < σ 0 3 0) : Rx (p_X4_hasSameLegs (2 * a) (2 * b)) w (fun v w' => w' = w ∧ ((v = 0 ∧ ¬ alk σ a b) ∨ (v = 1 ∧ alk σ a b))) NE := by
  have h1 := two_ok ha
  have h2 := two_ok hb
  have w1 := wf.way (2 * a)
  have w2 := wf.way (2 * b)
  unfold p_X4_hasSameLegs
  refine Rx_rd (g_many hw h1) ?_
  refine Rx_rd (g_many hw h2) ?_
  refine Rx_if (fun h => ?_) (fun h => ?_)
  · rw [nI_eq (by omega) (by omega)] at h
    refine Rx_tn (L_same (f := 4095) wf hw h1 h2 (3 * σ 9 (2 * a) 2) 0 (by omega) (by omega) (fun j' hj' => absurd hj' (Nat.not_lt_zero _))) (fun v w' ⟨e, hor⟩ => ⟨e, ?_⟩)
    rcases hor with ⟨e1, j', c1, c2⟩ | ⟨e1, c⟩
    · exact Or.inl ⟨e1, fun q => c2 (q.2 j' c1)⟩
    · exact Or.inr ⟨e1, h, c⟩
  · rw [nI_eq (by omega) (by omega)] at h
    exact Rx_rtZ0 ⟨rfl, Or.inl ⟨rfl, fun q => h q.1⟩⟩
/-- the marks below i are right -/
def MI (σ κ : SG) (i : Nat) : Prop := ∀ j, j < i → (σ 9 (2 * j) 5 = 0 → κ 2 0 j = 0) ∧ (σ 9 (2 * j) 5 ≠ 0 → ∀ a, isFL σ j a → κ 2 0 j = mkN σ a + 1)
theorem isFL_ex {j : Nat} (h : σ 9 (2 * j) 5 ≠ 0) : ∃ a, a ≤ j ∧ isFL σ j a := by
  obtain ⟨a, h1, h2⟩ := pk_least (fun a => σ 9 (2 * a) 5 ≠ 0 ∧ alk σ a j) ⟨j, h, alk_refl j⟩
  refine ⟨a, ?_, h1, h2⟩
  rcases Nat.lt_or_ge j a with q | q
  · exact absurd ⟨h, alk_refl j⟩ (h2 j q)
  · exact q
theorem MI_b {i j : Nat} (h : MI σ κ i) (hj : j < i) (hi : i ≤ 60) : κ 2 0 j ≤ 61 ∧ (κ 2 0 j = 0 ↔ σ 9 (2 * j) 5 = 0) := by
  by_cases q : σ 9 (2 * j) 5 = 0
  · have := (h j hj).1 q
    omega
  · obtain ⟨a, h1, h2⟩ := isFL_ex (σ := σ) q
    have e := (h j hj).2 q a h2
    have := mkN_le (σ := σ) a
    omega
theorem L_mlb (wf : WF σ) (hw : Wd σ κ τ μ z w) {i : Nat} (hi : i < σ 0 3 0) (hmi : MI σ κ i) : ∀ (n f j : Nat), j + n = i → n ≤ f → (∀ a, a < j → ¬ (σ 9 (2 * a) 5 ≠ 0 ∧ alk σ a i)) → Rx (p_X5_markOfLikeBox_L17 (nI i) (2 * i) (prt (-1 : Int32)) (f + 1) (nI j)) w (fun v w' => w' = w ∧ ((v = m1 0 ∧ ∀ a, a < i → ¬ (σ 9 (2 * a) 5 ≠ 0 ∧ alk σ a i)) ∨ ∃ a, a < i ∧ isFL σ i a ∧ v = m1 (mkN σ a + 1))) NE := by
  have hbx := wf.bx
  intro n
  induction n with
  | zero =>
    intro f j h1 h2 h3
    rw [p_X5_markOfLikeBox_L17]
    refine Rx_pos (by rw [nI_leI (by omega) (by omega)]; omega) ?_
    exact Rx_rt ⟨rfl, Or.inl ⟨rfl, fun a ha => h3 a (by omega)⟩⟩
  | succ n ih =>
    intro f j h1 h2 h3
    obtain ⟨f', rfl⟩ : ∃ f', f = f' + 1 := ⟨f - 1, by omega⟩
    have hj : j < σ 0 3 0 := by omega
    have hb := MI_b hmi (show j < i by omega) (by omega)
    have nx : ¬ (σ 9 (2 * j) 5 ≠ 0 ∧ alk σ j i) → Rx (p_X5_markOfLikeBox_L17 (nI i) (2 * i) (prt (-1 : Int32)) (f' + 1) (nI j + 1)) w (fun v w' => w' = w ∧ ((v = m1 0 ∧ ∀ a, a < i → ¬ (σ 9 (2 * a) 5 ≠ 0 ∧ alk σ a i)) ∨ ∃ a, a < i ∧ isFL σ i a ∧ v = m1 (mkN σ a + 1))) NE := by
      intro hno
      rw [nI_1]
      refine ih f' (j + 1) (by omega) (by omega) (fun a ha => ?_)
      by_cases q : a = j
      · subst q; exact hno
      · exact h3 a (by omega)
    rw [p_X5_markOfLikeBox_L17]
    unfold p_X5_markOfLikeBox_b60
    refine Rx_neg (by rw [nI_leI (by omega) (by omega)]; omega) ?_
    refine Rx_rd (g_chk6 hw) ?_
    refine Rx_rd (g_marks hw (by omega)) ?_
    refine Rx_if (fun h => ?_) (fun h => ?_)
    · rw [m1_neg (by omega), hb.2] at h
      exact nx (fun q => q.1 h)
    · rw [m1_neg (by omega), hb.2] at h
      refine Rx_rd (g_chk6 hw) ?_
      refine Rx_assoc ?_
      refine Rx_rd (g_chk01 hw) ?_
      refine Rx_rd (g_gt1 hw hj) ?_
      rw [nI_clamp (by omega)]
      refine Rx_rd (g_chk1 hw hj) ?_
      refine Rx_rd (g_chk1 hw hj) ?_
      refine Rx_assoc ?_
      refine Rx_rd (g_chk5 hw (two_ok hj)) ?_
      refine Rx_cn (R_same wf hw hj hi) (fun v w' ⟨e, hor⟩ => ?_)
      subst e
      rcases hor with ⟨rfl, q⟩ | ⟨rfl, q⟩
      · exact Rx_pos rfl (nx (fun q2 => q q2.2))
      · refine Rx_neg (by decide) ?_
        refine Rx_rd (g_chk6 hw) ?_
        refine Rx_rd (g_marks hw (by omega)) ?_
        have hfl : isFL σ i j := ⟨⟨h, q⟩, h3⟩
        refine Rx_rt ⟨rfl, Or.inr ⟨j, by omega, hfl, ?_⟩⟩
        rw [(hmi j (by omega)).2 h j (isFL_self hfl)]
theorem L_nm (wf : WF σ) {kx : Int32 → PM Int32} {Q : Int32 → PS → Prop} {E : String → PS → Prop}
    (hk : ∀ κ w, Wd σ κ τ μ z w → MI σ κ (σ 0 3 0) → Rx (kx (nI (mkN σ (σ 0 3 0)))) w Q E) :
    ∀ (n f i : Nat) (κ : SG) (w : PS), i + n = σ 0 3 0 → n ≤ f → Wd σ κ τ μ z w → MI σ κ i → Rx (p_X5_numberMarks_L4 kx (f + 1) (nI (mkN σ i)) (nI i)) w Q E := by
  have hbx := wf.bx
  intro n
  induction n with
  | zero =>
    intro f i κ w h1 h2 hw hmi
    rw [p_X5_numberMarks_L4]
    refine Rx_rd (g_chk6 hw) ?_
    refine Rx_assoc ?_
    refine Rx_rd (g_chk01 hw) ?_
    refine Rx_rd (g_sz1 hw) ?_
    have : i = σ 0 3 0 := by omega
    subst this
    exact Rx_pos (by rw [nI_leI (by omega) (by omega)]; omega) (hk κ w hw hmi)
  | succ n ih =>
    intro f i κ w h1 h2 hw hmi
    obtain ⟨f', rfl⟩ : ∃ f', f = f' + 1 := ⟨f - 1, by omega⟩
    have hi : i < σ 0 3 0 := by omega
    have hml := mkN_le (σ := σ) i
    rw [p_X5_numberMarks_L4]
    unfold p_X5_numberMarks_b82
    refine Rx_rd (g_chk6 hw) ?_
    refine Rx_assoc ?_
    refine Rx_rd (g_chk01 hw) ?_
    refine Rx_rd (g_sz1 hw) ?_
    refine Rx_neg (by rw [nI_leI (by omega) (by omega)]; omega) ?_
    refine Rx_rd (g_chk6 hw) ?_
    refine Rx_rd (w' := w) (v := nI 60) rfl ?_
    refine Rx_neg (by rw [nI_leI (by omega) (by omega)]; omega) ?_
    refine Rx_rd (g_chk6 hw) ?_
    rw [← m1_0]
    refine Rx_set (s_marks hw (show i < 60 by omega)) (fun w1 hw1 => ?_)
    rw [m1_0]
    have hmi1 : ∀ v, MI σ (us κ 2 0 i v) i := fun v j hj => by
      have e : us κ 2 0 i v 2 0 j = κ 2 0 j := if_neg (fun e => by omega)
      rw [e]
      exact hmi j hj
    refine Rx_rd (g_chk6 hw1) ?_
    refine Rx_assoc ?_
    refine Rx_rd (g_chk01 hw1) ?_
    refine Rx_rd (g_gt1 hw1 hi) ?_
    rw [nI_clamp (by omega)]
    refine Rx_rd (g_chk1 hw1 hi) ?_
    refine Rx_rd (g_chk1 hw1 hi) ?_
    refine Rx_assoc ?_
    refine Rx_rd (g_chk5 hw1 (two_ok hi)) ?_
    refine Rx_rd (r_hasWay hw1 wf (two_ok hi)) ?_
    refine Rx_ifb (fun h => ?_) (fun h => ?_)
    · have h0 : σ 9 (2 * i) 5 = 0 := by omega
      have hn : ¬ isFL σ i i := fun q => q.1.1 h0
      rw [nI_1, ← mkN_n hn]
      refine ih f' (i + 1) _ w1 (by omega) (by omega) hw1 (fun j hj => ?_)
      by_cases q : j = i
      · subst q
        exact ⟨fun _ => us_self, fun q2 => absurd h0 q2⟩
      · exact hmi1 0 j (by omega)
    · refine Rx_rd (g_chk6 hw1) ?_
      unfold p_X5_markOfLikeBox
      refine Rx_assoc ?_
      refine Rx_rd (g_chk6 hw1) ?_
      refine Rx_assoc ?_
      refine Rx_rd (g_chk6 hw1) ?_
      refine Rx_assoc ?_
      refine Rx_assoc ?_
      refine Rx_rd (g_chk01 hw1) ?_
      refine Rx_rd (g_gt1 hw1 hi) ?_
      rw [nI_clamp (by omega)]
      refine Rx_assoc ?_
      refine Rx_rd (g_chk1 hw1 hi) ?_
      refine Rx_assoc ?_
      refine Rx_rd (g_chk1 hw1 hi) ?_
      refine Rx_cn (L_mlb (f := 4095) wf hw1 hi (hmi1 0) i 0 (by omega) (by omega) (fun a ha => absurd ha (Nat.not_lt_zero _))) (fun v w' ⟨e, hor⟩ => ?_)
      subst e
      have huu : ∀ u, us (us κ 2 0 i 0) 2 0 i u = us κ 2 0 i u := fun u => by
        funext x y q
        simp only [us_at]
        by_cases e : x = 2 ∧ y = 0 ∧ q = i
        · simp only [if_pos e]
        · simp only [if_neg e]
      rcases hor with ⟨rfl, hno⟩ | ⟨a, ha, hfl, rfl⟩
      · refine Rx_set (s_marks hw1 (show i < 60 by omega)) (fun w2 hw2 => ?_)
        refine Rx_rd (g_chk6 hw2) ?_
        refine Rx_rd (g_marks hw2 (by omega)) ?_
        rw [us_self]
        refine Rx_pos rfl ?_
        refine Rx_rd (g_chk6 hw2) ?_
        rw [← m1_s (mkN σ i)]
        refine Rx_set (s_marks hw2 (show i < 60 by omega)) (fun w3 hw3 => ?_)
        rw [huu, huu] at hw3
        have hy : isFL σ i i := ⟨⟨h, alk_refl i⟩, hno⟩
        rw [m1_s, nI_1, nI_1, ← mkN_y hy]
        refine ih f' (i + 1) _ w3 (by omega) (by omega) hw3 (fun j hj => ?_)
        by_cases q : j = i
        · subst q
          refine ⟨fun q2 => absurd q2 h, fun _ a ha => ?_⟩
          rw [us_self, isFL_uniq ha hy]
        · exact hmi1 _ j (by omega)
      · refine Rx_set (s_marks hw1 (show i < 60 by omega)) (fun w2 hw2 => ?_)
        have hml2 := mkN_le (σ := σ) a
        refine Rx_rd (g_chk6 hw2) ?_
        refine Rx_rd (g_marks hw2 (by omega)) ?_
        rw [us_self]
        refine Rx_neg (by rw [m1_neg (by omega)]; omega) ?_
        rw [huu] at hw2
        have hn : ¬ isFL σ i i := fun q => by have := isFL_uniq q hfl; omega
        rw [nI_1, ← mkN_n hn]
        refine ih f' (i + 1) _ w2 (by omega) (by omega) hw2 (fun j hj => ?_)
        by_cases q : j = i
        · subst q
          refine ⟨fun q2 => absurd q2 h, fun _ a' ha' => ?_⟩
          rw [us_self, isFL_uniq ha' hfl]
        · exact hmi1 _ j (by omega)
theorem R_nm (wf : WF σ) (hw : Wd σ κ τ μ z w) : Rx p_X5_numberMarks w (fun v w' => ∃ κ', v = nI (mkN σ (σ 0 3 0)) ∧ Wd σ κ' τ μ z w' ∧ MI σ κ' (σ 0 3 0)) NE := by
  have := wf.bx
  unfold p_X5_numberMarks
  exact L_nm (f := 4095) wf (fun κ' w' a b => Rx_rt ⟨κ', rfl, a, b⟩) (σ 0 3 0) 0 κ w (by omega) (by omega) hw (fun j hj => absurd hj (Nat.not_lt_zero _))
/-! the reference's marks -/
theorem L_Malk (wt : WF τ) (hw : Wd σ κ τ μ z w) {a b : Nat} (ha : a < 60) (hb : b < 60) (hm : τ 9 (2 * a) 2 = τ 9 (2 * b) 2) : ∀ (n f i : Nat), i + n = τ 9 (2 * a) 2 → n ≤ f → (∀ j, j < 3 * i → τ 10 (2 * a) j = τ 10 (2 * b) j) → Rx (p_X6_isAlike_L28 (nI a) (nI b) (fun y => prtZ y) (f + 2) 1 (nI i)) w (fun v w' => w' = w ∧ ((v = 0 ∧ ¬ alk τ a b) ∨ (v = 1 ∧ alk τ a b))) NE := by
  have hway := wt.way (2 * a)
  intro n
  induction n with
  | zero =>
    intro f i h1 h2 h3
    rw [p_X6_isAlike_L28]
    refine Rx_neg (by decide) ?_
    rw [nL_2, nI_mulI]
    refine Rx_rd (g_chk7 hw) ?_
    refine Rx_rd (h_many hw (by omega)) ?_
    refine Rx_pos (by rw [nI_leI (by omega) (by omega)]; omega) ?_
    exact Rx_rtZ1 ⟨rfl, Or.inr ⟨rfl, hm, fun j hj => h3 j (by omega)⟩⟩
  | succ n ih =>
    intro f i h1 h2 h3
    obtain ⟨f', rfl⟩ : ∃ f', f = f' + 1 := ⟨f - 1, by omega⟩
    have b0 := fun q => wt.legb (2 * a) q
    have b1 := fun q => wt.legb (2 * b) q
    have p0 := b0 (3 * i)
    have p1 := b0 (3 * i + 1)
    have p2 := b0 (3 * i + 2)
    have q0 := b1 (3 * i)
    have q1 := b1 (3 * i + 1)
    have q2 := b1 (3 * i + 2)
    have no : (∃ j, j < 3 * τ 9 (2 * a) 2 ∧ τ 10 (2 * a) j ≠ τ 10 (2 * b) j) → Rx (p_X6_isAlike_L28 (nI a) (nI b) (fun y => prtZ y) (f' + 1 + 1) 0 (nI i + 1)) w (fun v w' => w' = w ∧ ((v = 0 ∧ ¬ alk τ a b) ∨ (v = 1 ∧ alk τ a b))) NE := by
      rintro ⟨j, c1, c2⟩
      rw [p_X6_isAlike_L28]
      refine Rx_pos rfl ?_
      exact Rx_rtZ0 ⟨rfl, Or.inl ⟨rfl, fun q => c2 (q.2 j c1)⟩⟩
    rw [p_X6_isAlike_L28]
    unfold p_X6_isAlike_b120 p_X6_isAlike_b121
    refine Rx_neg (by decide) ?_
    rw [nL_2, nI_mulI, nI_mulI]
    refine Rx_rd (g_chk7 hw) ?_
    refine Rx_rd (h_many hw (by omega)) ?_
    refine Rx_neg (by rw [nI_leI (by omega) (by omega)]; omega) ?_
    refine Rx_rd (r_legAt hw) ?_
    refine Rx_rd (r_legAt hw) ?_
    refine Rx_rd (g_chk7 hw) ?_
    refine Rx_rd (h_legT hw (by omega) (by omega)) ?_
    refine Rx_rd (g_chk7 hw) ?_
    refine Rx_rd (h_legT hw (by omega) (by omega)) ?_
    refine Rx_if (fun h => ?_) (fun h => ?_)
    · rw [nI_eq (by omega) (by omega)] at h
      refine Rx_rd (g_chk7 hw) ?_
      refine Rx_rd (h_legN hw (by omega) (by omega)) ?_
      refine Rx_rd (g_chk7 hw) ?_
      refine Rx_rd (h_legN hw (by omega) (by omega)) ?_
      refine Rx_if (fun h' => ?_) (fun h' => ?_)
      · rw [nI_eq (by omega) (by omega)] at h'
        refine Rx_rd (g_chk7 hw) ?_
        refine Rx_rd (h_legF hw (by omega) (by omega)) ?_
        refine Rx_rd (g_chk7 hw) ?_
        refine Rx_rd (h_legF hw (by omega) (by omega)) ?_
        refine Rx_if (fun h'' => ?_) (fun h'' => ?_)
        · rw [nI_eq (by omega) (by omega)] at h''
          rw [nI_1]
          refine ih f' (i + 1) (by omega) (by omega) (fun j hj => ?_)
          by_cases c : j < 3 * i
          · exact h3 j c
          · have : j = 3 * i ∨ j = 3 * i + 1 ∨ j = 3 * i + 2 := by omega
            rcases this with rfl | rfl | rfl
            · exact h
            · exact h'
            · exact h''
        · rw [nI_eq (by omega) (by omega)] at h''
          exact no ⟨3 * i + 2, by omega, h''⟩
      · rw [nI_eq (by omega) (by omega)] at h'
        exact no ⟨3 * i + 1, by omega, h'⟩
    · rw [nI_eq (by omega) (by omega)] at h
      exact no ⟨3 * i, by omega, h⟩
theorem R_Malk (wt : WF τ) (hw : Wd σ κ τ μ z w) {a b : Nat} (ha : a < 60) (hb : b < 60) : Rx (p_X6_isAlike (nI a) (nI b)) w (fun v w' => w' = w ∧ ((v = 0 ∧ ¬ alk τ a b) ∨ (v = 1 ∧ alk τ a b))) NE := by
  have w1 := wt.way (2 * a)
  have w2 := wt.way (2 * b)
  unfold p_X6_isAlike p_X6_isAlike_b24
  rw [nL_2, nI_mulI, nI_mulI]
  refine Rx_rd (g_chk7 hw) ?_
  refine Rx_rd (h_many hw (by omega)) ?_
  refine Rx_rd (g_chk7 hw) ?_
  refine Rx_rd (h_many hw (by omega)) ?_
  refine Rx_if (fun h => ?_) (fun h => ?_)
  · rw [nI_eq (by omega) (by omega)] at h
    exact L_Malk (f := 4094) wt hw ha hb h (τ 9 (2 * a) 2) 0 (by omega) (by omega) (fun j hj => absurd hj (by omega))
  · rw [nI_eq (by omega) (by omega)] at h
    rw [show FU = 4095 + 1 from rfl, p_X6_isAlike_L28]
    refine Rx_pos rfl ?_
    exact Rx_rtZ0 ⟨rfl, Or.inl ⟨rfl, fun q => h q.1⟩⟩
theorem L_Mfl (wt : WF τ) (hw : Wd σ κ τ μ z w) {b a : Nat} (hb : b < 60) (hfl : isFL τ b a) (ha : a ≤ b) : ∀ (n f i : Nat), i + n = a → n ≤ f → Rx (p_X6_firstLike_L2 (nI b) (fun y => prt y) (f + 1) (nI i)) w (fun v w' => v = nI a ∧ w' = w) NE := by
  intro n
  induction n with
  | zero =>
    intro f i h1 h2
    have : i = a := by omega
    subst this
    rw [p_X6_firstLike_L2]
    rw [nL_2, nI_mulI]
    refine Rx_rd (g_chk7 hw) ?_
    refine Rx_rd (h_has hw (by omega)) ?_
    rw [if_neg hfl.1.1]
    refine Rx_neg (by decide) ?_
    refine Rx_assoc ?_
    refine Rx_rd (g_chk7 hw) ?_
    refine Rx_cn (R_Malk wt hw (by omega) hb) (fun v w' ⟨e, hor⟩ => ?_)
    subst e
    rcases hor with ⟨_, q⟩ | ⟨rfl, _⟩
    · exact absurd hfl.1.2 q
    · exact Rx_neg (by decide) (Rx_rt ⟨rfl, rfl⟩)
  | succ n ih =>
    intro f i h1 h2
    obtain ⟨f', rfl⟩ : ∃ f', f = f' + 1 := ⟨f - 1, by omega⟩
    rw [p_X6_firstLike_L2]
    unfold p_X6_firstLike_b22
    rw [nL_2, nI_mulI]
    refine Rx_rd (g_chk7 hw) ?_
    refine Rx_rd (h_has hw (by omega)) ?_
    by_cases h5 : τ 9 (2 * i) 5 = 0
    · rw [if_pos h5]
      refine Rx_pos rfl ?_
      rw [nI_1]
      exact ih f' (i + 1) (by omega) (by omega)
    · rw [if_neg h5]
      refine Rx_neg (by decide) ?_
      refine Rx_assoc ?_
      refine Rx_rd (g_chk7 hw) ?_
      refine Rx_cn (R_Malk wt hw (by omega) hb) (fun v w' ⟨e, hor⟩ => ?_)
      subst e
      rcases hor with ⟨rfl, q⟩ | ⟨_, q⟩
      · refine Rx_pos rfl ?_
        rw [nI_1]
        exact ih f' (i + 1) (by omega) (by omega)
      · exact absurd ⟨h5, q⟩ (hfl.2 i (by omega))
theorem q_Mfl (wt : WF τ) (hw : Wd σ κ τ μ z w) {b a : Nat} (hb : b < 60) (hfl : isFL τ b a) (ha : a ≤ b) : p_X6_firstLike (nI b) w = some (.inl (nI a), w) := by
  refine Rx_un ?_
  unfold p_X6_firstLike
  exact L_Mfl (f := 4095) wt hw hb hfl ha a 0 (by omega) (by omega)
theorem L_Mmu (wt : WF τ) (hw : Wd σ κ τ μ z w) {m : Nat} (hm : m ≤ 60) : ∀ (n f i : Nat), i + n = m → n ≤ f → Rx (p_X6_marksUpTo_L4 (nI m) (fun y => prt y) (f + 1) (nI (mkN τ i)) (nI i)) w (fun v w' => v = nI (mkN τ m) ∧ w' = w) NE := by
  intro n
  induction n with
  | zero =>
    intro f i h1 h2
    have : i = m := by omega
    subst this
    rw [p_X6_marksUpTo_L4]
    exact Rx_pos (by rw [nI_leI (by omega) (by omega)]; omega) (Rx_rt ⟨rfl, rfl⟩)
  | succ n ih =>
    intro f i h1 h2
    obtain ⟨f', rfl⟩ : ∃ f', f = f' + 1 := ⟨f - 1, by omega⟩
    rw [p_X6_marksUpTo_L4]
    unfold p_X6_marksUpTo_b34 p_X6_marksUpTo_b35
    refine Rx_neg (by rw [nI_leI (by omega) (by omega)]; omega) ?_
    rw [nL_2, nI_mulI]
    refine Rx_rd (g_chk7 hw) ?_
    refine Rx_rd (h_has hw (by omega)) ?_
    have no : ¬ isFL τ i i → Rx (p_X6_marksUpTo_L4 (nI m) (fun y => prt y) (f' + 1) (nI (mkN τ i) + 0) (nI i + 1)) w (fun v w' => v = nI (mkN τ m) ∧ w' = w) NE := by
      intro hn
      rw [nL_0, nI_add, nI_1, Nat.add_zero, ← mkN_n hn]
      exact ih f' (i + 1) (by omega) (by omega)
    by_cases h5 : τ 9 (2 * i) 5 = 0
    · rw [if_pos h5]
      exact Rx_pos rfl (no (fun q => q.1.1 h5))
    · rw [if_neg h5]
      refine Rx_neg (by decide) ?_
      obtain ⟨a, h3, h4⟩ := isFL_ex (σ := τ) h5
      refine Rx_assoc ?_
      refine Rx_rd (g_chk7 hw) ?_
      refine Rx_rd (q_Mfl wt hw (by omega) h4 h3) ?_
      refine Rx_if (fun h => ?_) (fun h => ?_)
      · rw [nI_eq (by omega) (by omega)] at h
        subst h
        rw [nI_1, nI_1, ← mkN_y h4]
        exact ih f' (a + 1) (by omega) (by omega)
      · rw [nI_eq (by omega) (by omega)] at h
        exact no (fun q => h (isFL_uniq h4 q))
theorem q_Mmu (wt : WF τ) (hw : Wd σ κ τ μ z w) {m : Nat} (hm : m ≤ 60) : p_X6_marksUpTo (nI m) w = some (.inl (nI (mkN τ m)), w) := by
  refine Rx_un ?_
  unfold p_X6_marksUpTo
  exact L_Mmu (f := 4095) wt hw hm m 0 (by omega) (by omega)
theorem op_mark (hv : INV3 σ) (x : Int32) : Op (p_X5_mark x) (p_X6_mark x) cf1 sN σ := by
  have wf := hv.1.1
  have hbx := wf.bx
  rcases isB_or (σ := σ) x with hx | ⟨b, hb, rfl⟩
  · unfold p_X5_mark
    refine op_nobox hv hx (fun σc κ μ z w hm hw => ?_)
    unfold p_X6_mark
    rw [nL_0]
    refine Rx_set (t_code hw) (fun w1 hw1 => ?_)
    refine Rx_assoc ?_
    refine Rx_rd (g_chk7 hw1) ?_
    refine Rx_rd (q_isB hw1 wf hx) ?_
    exact Rx_pos rfl (Rx_failp (hm.code 0) hw1)
  · have hb6 : b < 60 := by omega
    have key : ∃ u : Nat, (∀ κ, MI σ κ (σ 0 3 0) → κ 2 0 b = u) ∧ ((σ 9 (2 * b) 5 = 0 ∧ u = 0) ∨ ∃ a, a ≤ b ∧ σ 9 (2 * b) 5 ≠ 0 ∧ isFL σ b a ∧ u = mkN σ a + 1) := by
      by_cases h5 : σ 9 (2 * b) 5 = 0
      · exact ⟨0, fun κ h => (h b hb).1 h5, Or.inl ⟨h5, rfl⟩⟩
      · obtain ⟨a, h3, h4⟩ := isFL_ex (σ := σ) h5
        exact ⟨mkN σ a + 1, fun κ h => (h b hb).2 h5 a h4, Or.inr ⟨a, h3, h5, h4, rfl⟩⟩
    obtain ⟨u, hu, hor⟩ := key
    refine ⟨.inl (m1 u), trivial, σ, hv, fun κ τ μ z w hw => ?_, fun σc κ μ z w hm hw => ?_⟩
    · unfold p_X5_mark
      refine Rx_assoc ?_
      refine Rx_rd (g_chk6 hw) ?_
      refine Rx_rd (q_boxOf wf hw hb) ?_
      refine Rx_assoc ?_
      refine Rx_rd (g_chk6 hw) ?_
      refine Rx_cn (R_nm wf hw) (fun v w1 ⟨κ1, _, hw1, hmi⟩ => ?_)
      refine Rx_rd (g_chk6 hw1) ?_
      refine Rx_rd (g_marks hw1 hb6) ?_
      exact Rx_rt ⟨by rw [hu κ1 hmi], κ1, hw1⟩
    · unfold p_X6_mark p_X6_mark_b42
      rw [nL_0]
      refine Rx_set (t_code hw) (fun w1 hw1 => ?_)
      refine Rx_assoc ?_
      refine Rx_rd (g_chk7 hw1) ?_
      refine Rx_rd (q_isBy hw1 wf hb) ?_
      refine Rx_neg (by decide) ?_
      rw [nL_2, nI_mulI]
      refine Rx_rd (g_chk7 hw1) ?_
      refine Rx_rd (h_has hw1 (by omega)) ?_
      rcases hor with ⟨h5, rfl⟩ | ⟨a, h3, h5, h4, rfl⟩
      · rw [if_pos h5]
        exact Rx_pos rfl (Rx_rt ⟨_, hw1, hm.code 0, rfl, us_code⟩)
      · rw [if_neg h5]
        refine Rx_neg (by decide) ?_
        refine Rx_assoc ?_
        refine Rx_rd (g_chk7 hw1) ?_
        refine Rx_rd (q_Mfl wf hw1 hb6 h4 h3) ?_
        refine Rx_assoc ?_
        refine Rx_rd (g_chk7 hw1) ?_
        refine Rx_rd (q_Mmu wf hw1 (by omega)) ?_
        exact Rx_rt ⟨_, hw1, hm.code 0, by rw [m1_s], us_code⟩
/-! count -/
end MARKS
def cW (σ : SG) : Nat → Nat
  | 0 => 0
  | n + 1 => cW σ n + if σ 9 (cur σ n) 5 ≠ 0 then 1 else 0
def cL (σ : SG) : Nat → Nat
  | 0 => 0
  | n + 1 => cL σ n + if σ 9 (cur σ n) 5 ≠ 0 ∧ dueS σ (cur σ n) < arrS σ (cur σ n) then 1 else 0
section CNT
variable {σ κ τ μ : SG} {z : BB} {w : PS}
theorem L_cW (wf : WF σ) (hw : Wd σ κ τ μ z w) : ∀ (n f i : Nat), i + n = σ 0 3 0 → n ≤ f → Rx (p_X5_boxesWithWay_L4 (fun y => prt y) (f + 1) (nI (cW σ i)) (nI i)) w (fun v w' => v = nI (cW σ (σ 0 3 0)) ∧ w' = w) NE := by
  have hbx := wf.bx
  intro n
  induction n with
  | zero =>
    intro f i h1 h2
    have : i = σ 0 3 0 := by omega
    subst this
    rw [p_X5_boxesWithWay_L4]
    (repeat (first | with_reducible refine Rx_assoc ?_ | (simp (disch := omega) only [nL_0, nL_1, nL_2, nL_3, nL_4, nL_5, nL_6, nL_7, nL_10, nL_16, nL_31, nL_40, nL_60, nL_120, nL_160, nL_1439, nL_1000000, nL_10000000, nL_268435456, nI_clamp, nI_1, nI_add, nI_sub, nI_pred, nI_mulI]) | with_reducible refine Rx_rd (g_row3 (by first | assumption | omega)) ?_ | with_reducible refine Rx_rd (g_row4 (by first | assumption | omega)) ?_ | with_reducible refine Rx_rd (g_chk0 hw) ?_ | with_reducible refine Rx_rd (g_chk01 hw) ?_ | with_reducible refine Rx_rd (g_chk1 hw (by first | assumption | omega)) ?_ | with_reducible refine Rx_rd (g_chk2 hw) ?_ | with_reducible refine Rx_rd (g_chk3 hw) ?_ | with_reducible refine Rx_rd (g_chk4 hw (by first | assumption | omega)) ?_ | with_reducible refine Rx_rd (g_chk5 hw (by first | assumption | omega)) ?_ | with_reducible refine Rx_rd (g_chk6 hw) ?_ | with_reducible refine Rx_rd (g_chk7 hw) ?_ | with_reducible refine Rx_rd (g_gO0 hw (by first | assumption | omega)) ?_ | with_reducible refine Rx_rd (g_gB hw (by first | assumption | omega) (by first | assumption | omega)) ?_ | with_reducible refine Rx_rd (g_st hw) ?_ | with_reducible refine Rx_rd (g_ca hw) ?_ | with_reducible refine Rx_rd (g_now hw) ?_ | with_reducible refine Rx_rd (g_sort hw (by first | assumption | omega)) ?_ | with_reducible refine Rx_rd (g_room hw (by first | assumption | omega)) ?_ | with_reducible refine Rx_rd (g_stops hw (by first | assumption | omega)) ?_ | with_reducible refine Rx_rd (g_canc hw (by first | assumption | omega)) ?_ | with_reducible refine Rx_rd (g_sta hw (by first | assumption | omega) (by first | assumption | omega)) ?_ | with_reducible refine Rx_rd (g_min hw (by first | assumption | omega) (by first | assumption | omega)) ?_ | with_reducible refine Rx_rd (g_load hw (by first | assumption | omega) (by first | assumption | omega)) ?_ | with_reducible refine Rx_rd (g_from hw (by first | assumption | omega)) ?_ | with_reducible refine Rx_rd (g_wfrom hw (by first | assumption | omega)) ?_ | with_reducible refine Rx_rd (g_ready hw (by first | assumption | omega)) ?_ | with_reducible refine Rx_rd (g_to hw (by first | assumption | omega)) ?_ | with_reducible refine Rx_rd (g_wto hw (by first | assumption | omega)) ?_ | with_reducible refine Rx_rd (g_due hw (by first | assumption | omega)) ?_ | with_reducible refine Rx_rd (g_many hw (by first | assumption | omega)) ?_ | with_reducible refine Rx_rd (g_had hw (by first | assumption | omega)) ?_ | with_reducible refine Rx_rd (g_there hw (by first | assumption | omega)) ?_ | with_reducible refine Rx_rd (g_stands hw (by first | assumption | omega)) ?_ | with_reducible refine Rx_rd (g_since hw (by first | assumption | omega)) ?_ | with_reducible refine Rx_rd (g_off hw (by first | assumption | omega)) ?_ | with_reducible refine Rx_rd (g_leg hw (by first | assumption | omega) (by first | assumption | omega)) ?_ | with_reducible refine Rx_rd (g_days hw (by first | assumption | omega)) ?_ | with_reducible refine Rx_rd (g_earl hw (by first | assumption | omega) (by first | assumption | omega)) ?_ | with_reducible refine Rx_rd (g_late hw (by first | assumption | omega) (by first | assumption | omega)) ?_ | with_reducible refine Rx_rd (g_marks hw (by first | assumption | omega)) ?_ | with_reducible refine Rx_rd (h_code hw) ?_ | with_reducible refine Rx_rd (h_now hw) ?_ | with_reducible refine Rx_rd (h_st hw) ?_ | with_reducible refine Rx_rd (h_tr hw) ?_ | with_reducible refine Rx_rd (h_bx hw) ?_ | with_reducible refine Rx_rd (h_ca hw) ?_ | with_reducible refine Rx_rd (h_sort hw (by first | assumption | omega)) ?_ | with_reducible refine Rx_rd (h_room hw (by first | assumption | omega)) ?_ | with_reducible refine Rx_rd (h_stops hw (by first | assumption | omega)) ?_ | with_reducible refine Rx_rd (h_sta hw (by first | assumption | omega) (by first | assumption | omega)) ?_ | with_reducible refine Rx_rd (h_min hw (by first | assumption | omega) (by first | assumption | omega)) ?_ | with_reducible refine Rx_rd (h_load hw (by first | assumption | omega) (by first | assumption | omega)) ?_ | with_reducible refine Rx_rd (h_days hw (by first | assumption | omega)) ?_ | with_reducible refine Rx_rd (h_canc hw (by first | assumption | omega)) ?_ | with_reducible refine Rx_rd (h_home hw (by first | assumption | omega)) ?_ | with_reducible refine Rx_rd (h_walk hw (by first | assumption | omega)) ?_ | with_reducible refine Rx_rd (h_ready hw (by first | assumption | omega)) ?_ | with_reducible refine Rx_rd (h_desk hw (by first | assumption | omega)) ?_ | with_reducible refine Rx_rd (h_walkT hw (by first | assumption | omega)) ?_ | with_reducible refine Rx_rd (h_due hw (by first | assumption | omega)) ?_ | with_reducible refine Rx_rd (h_rback hw (by first | assumption | omega)) ?_ | with_reducible refine Rx_rd (h_emp hw (by first | assumption | omega)) ?_ | with_reducible refine Rx_rd (h_had hw (by first | assumption | omega)) ?_ | with_reducible refine Rx_rd (h_has hw (by first | assumption | omega)) ?_ | with_reducible refine Rx_rd (h_many hw (by first | assumption | omega)) ?_ | with_reducible refine Rx_rd (h_stands hw (by first | assumption | omega)) ?_ | with_reducible refine Rx_rd (h_since hw (by first | assumption | omega) (by first | assumption | omega)) ?_ | with_reducible refine Rx_rd (h_legT hw (by first | assumption | omega) (by first | assumption | omega)) ?_ | with_reducible refine Rx_rd (h_legN hw (by first | assumption | omega) (by first | assumption | omega)) ?_ | with_reducible refine Rx_rd (h_legF hw (by first | assumption | omega) (by first | assumption | omega)) ?_ | with_reducible refine Rx_rd (h_early hw (by first | assumption | omega)) ?_ | with_reducible refine Rx_rd (h_few hw (by first | assumption | omega)) ?_ | with_reducible refine Rx_rd (h_bT hw) ?_ | with_reducible refine Rx_rd (h_bL hw) ?_ | with_reducible refine Rx_rd (h_bt hw) ?_ | with_reducible refine Rx_rd (h_bon hw) ?_ | with_reducible refine Rx_rd (h_boff hw) ?_ | with_reducible refine Rx_rd (h_gives hw (by first | assumption | omega)) ?_ | with_reducible refine Rx_rd (g_sz0 hw) ?_ | with_reducible refine Rx_rd (g_sz1 hw) ?_ | with_reducible refine Rx_rd (g_gt0 hw (by first | assumption | omega)) ?_ | with_reducible refine Rx_rd (g_gt1 hw (by first | assumption | omega)) ?_ | with_reducible refine Rx_rd (r_sortedAt hw (by first | assumption | omega) (by first | assumption | omega) (by first | assumption | omega)) ?_ | with_reducible refine Rx_rd (r_isFull hw (by first | assumption | omega) (by first | assumption | omega)) ?_ | with_reducible refine Rx_rd (r_stands hw wf (by first | assumption | omega)) ?_ | with_reducible refine Rx_rd (r_hasWay hw wf (by first | assumption | omega)) ?_ | with_reducible refine Rx_rd (r_arrivalY hw wf (by first | assumption | omega) (by first | assumption | omega)) ?_ | with_reducible refine Rx_rd (r_arrivedBy hw wf (by first | assumption | omega) (by first | assumption | omega)) ?_ | with_reducible refine Rx_rd (r_goneBy hw wf (by first | assumption | omega) (by first | assumption | omega)) ?_ | with_reducible refine Rx_rd (r_isLate hw wf (by first | assumption | omega)) ?_ | with_reducible refine Rx_rd (r_thereBy hw wf (by first | assumption | omega) (by first | assumption | omega)) ?_ | with_reducible refine Rx_rd (r_current hw (by first | assumption | omega)) ?_ | with_reducible refine Rx_rd (r_isEmpty hw (by first | assumption | omega)) ?_ | with_reducible refine Rx_rd (r_legNumber hw (by first | assumption | omega) (by first | assumption | omega)) ?_ | with_reducible refine Rx_rd (r_ledLegs hw wf (by first | assumption | omega)) ?_ | with_reducible refine Rx_rd (r_beginning hw wf (by first | assumption | omega)) ?_ | with_reducible refine Rx_rd (r_mayFollow hw wf (by first | assumption | omega) (by first | assumption | omega) (by first | assumption | omega)) ?_ | with_reducible refine Rx_rd (r_beginsAfter hw wf (by first | assumption | omega) (by first | assumption | omega)) ?_ | with_reducible refine Rx_rd (r_node hw) ?_ | with_reducible refine Rx_rd (r_legAt hw) ?_ | with_reducible refine Rx_rd (r_Mway hw wt (by first | assumption | omega)) ?_ | with_reducible refine Rx_rd (r_Mto hw wt (by first | assumption | omega)) ?_ | with_reducible refine Rx_rd (r_Mfrom hw wt (by first | assumption | omega)) ?_ | with_reducible refine Rx_rd (r_Mready hw wt (by first | assumption | omega)) ?_ | with_reducible refine Rx_rd (r_Msorted hw wt (by first | assumption | omega)) ?_ | with_reducible refine Rx_rd (r_Mbehind hw wt (by first | assumption | omega) (by first | assumption | omega) (by first | assumption | omega)) ?_ | with_reducible refine Rx_rd (r_Mthere hw wt (by first | assumption | omega)) ?_ | with_reducible refine Rx_rd (r_Mfree hw (by first | assumption | omega) (by first | assumption | omega) (by first | assumption | omega)) ?_ | with_reducible refine Rx_rd (r_Mgone hw wt (by first | assumption | omega)) ?_ | with_reducible refine Rx_rd (r_Mlate hw wt (by first | assumption | omega)) ?_))
    exact Rx_pos (by rw [nI_leI (by omega) (by omega)]; omega) (Rx_rt ⟨rfl, rfl⟩)
  | succ n ih =>
    intro f i h1 h2
    obtain ⟨f', rfl⟩ : ∃ f', f = f' + 1 := ⟨f - 1, by omega⟩
    have hi : i < σ 0 3 0 := by omega
    have hio := cur_ok wf hi
    rw [p_X5_boxesWithWay_L4]
    unfold p_X5_boxesWithWay_b38
    (repeat (first | with_reducible refine Rx_assoc ?_ | (simp (disch := omega) only [nL_0, nL_1, nL_2, nL_3, nL_4, nL_5, nL_6, nL_7, nL_10, nL_16, nL_31, nL_40, nL_60, nL_120, nL_160, nL_1439, nL_1000000, nL_10000000, nL_268435456, nI_clamp, nI_1, nI_add, nI_sub, nI_pred, nI_mulI]) | with_reducible refine Rx_rd (g_row3 (by first | assumption | omega)) ?_ | with_reducible refine Rx_rd (g_row4 (by first | assumption | omega)) ?_ | with_reducible refine Rx_rd (g_chk0 hw) ?_ | with_reducible refine Rx_rd (g_chk01 hw) ?_ | with_reducible refine Rx_rd (g_chk1 hw (by first | assumption | omega)) ?_ | with_reducible refine Rx_rd (g_chk2 hw) ?_ | with_reducible refine Rx_rd (g_chk3 hw) ?_ | with_reducible refine Rx_rd (g_chk4 hw (by first | assumption | omega)) ?_ | with_reducible refine Rx_rd (g_chk5 hw (by first | assumption | omega)) ?_ | with_reducible refine Rx_rd (g_chk6 hw) ?_ | with_reducible refine Rx_rd (g_chk7 hw) ?_ | with_reducible refine Rx_rd (g_gO0 hw (by first | assumption | omega)) ?_ | with_reducible refine Rx_rd (g_gB hw (by first | assumption | omega) (by first | assumption | omega)) ?_ | with_reducible refine Rx_rd (g_st hw) ?_ | with_reducible refine Rx_rd (g_ca hw) ?_ | with_reducible refine Rx_rd (g_now hw) ?_ | with_reducible refine Rx_rd (g_sort hw (by first | assumption | omega)) ?_ | with_reducible refine Rx_rd (g_room hw (by first | assumption | omega)) ?_ | with_reducible refine Rx_rd (g_stops hw (by first | assumption | omega)) ?_ | with_reducible refine Rx_rd (g_canc hw (by first | assumption | omega)) ?_ | with_reducible refine Rx_rd (g_sta hw (by first | assumption | omega) (by first | assumption | omega)) ?_ | with_reducible refine Rx_rd (g_min hw (by first | assumption | omega) (by first | assumption | omega)) ?_ | with_reducible refine Rx_rd (g_load hw (by first | assumption | omega) (by first | assumption | omega)) ?_ | with_reducible refine Rx_rd (g_from hw (by first | assumption | omega)) ?_ | with_reducible refine Rx_rd (g_wfrom hw (by first | assumption | omega)) ?_ | with_reducible refine Rx_rd (g_ready hw (by first | assumption | omega)) ?_ | with_reducible refine Rx_rd (g_to hw (by first | assumption | omega)) ?_ | with_reducible refine Rx_rd (g_wto hw (by first | assumption | omega)) ?_ | with_reducible refine Rx_rd (g_due hw (by first | assumption | omega)) ?_ | with_reducible refine Rx_rd (g_many hw (by first | assumption | omega)) ?_ | with_reducible refine Rx_rd (g_had hw (by first | assumption | omega)) ?_ | with_reducible refine Rx_rd (g_there hw (by first | assumption | omega)) ?_ | with_reducible refine Rx_rd (g_stands hw (by first | assumption | omega)) ?_ | with_reducible refine Rx_rd (g_since hw (by first | assumption | omega)) ?_ | with_reducible refine Rx_rd (g_off hw (by first | assumption | omega)) ?_ | with_reducible refine Rx_rd (g_leg hw (by first | assumption | omega) (by first | assumption | omega)) ?_ | with_reducible refine Rx_rd (g_days hw (by first | assumption | omega)) ?_ | with_reducible refine Rx_rd (g_earl hw (by first | assumption | omega) (by first | assumption | omega)) ?_ | with_reducible refine Rx_rd (g_late hw (by first | assumption | omega) (by first | assumption | omega)) ?_ | with_reducible refine Rx_rd (g_marks hw (by first | assumption | omega)) ?_ | with_reducible refine Rx_rd (h_code hw) ?_ | with_reducible refine Rx_rd (h_now hw) ?_ | with_reducible refine Rx_rd (h_st hw) ?_ | with_reducible refine Rx_rd (h_tr hw) ?_ | with_reducible refine Rx_rd (h_bx hw) ?_ | with_reducible refine Rx_rd (h_ca hw) ?_ | with_reducible refine Rx_rd (h_sort hw (by first | assumption | omega)) ?_ | with_reducible refine Rx_rd (h_room hw (by first | assumption | omega)) ?_ | with_reducible refine Rx_rd (h_stops hw (by first | assumption | omega)) ?_ | with_reducible refine Rx_rd (h_sta hw (by first | assumption | omega) (by first | assumption | omega)) ?_ | with_reducible refine Rx_rd (h_min hw (by first | assumption | omega) (by first | assumption | omega)) ?_ | with_reducible refine Rx_rd (h_load hw (by first | assumption | omega) (by first | assumption | omega)) ?_ | with_reducible refine Rx_rd (h_days hw (by first | assumption | omega)) ?_ | with_reducible refine Rx_rd (h_canc hw (by first | assumption | omega)) ?_ | with_reducible refine Rx_rd (h_home hw (by first | assumption | omega)) ?_ | with_reducible refine Rx_rd (h_walk hw (by first | assumption | omega)) ?_ | with_reducible refine Rx_rd (h_ready hw (by first | assumption | omega)) ?_ | with_reducible refine Rx_rd (h_desk hw (by first | assumption | omega)) ?_ | with_reducible refine Rx_rd (h_walkT hw (by first | assumption | omega)) ?_ | with_reducible refine Rx_rd (h_due hw (by first | assumption | omega)) ?_ | with_reducible refine Rx_rd (h_rback hw (by first | assumption | omega)) ?_ | with_reducible refine Rx_rd (h_emp hw (by first | assumption | omega)) ?_ | with_reducible refine Rx_rd (h_had hw (by first | assumption | omega)) ?_ | with_reducible refine Rx_rd (h_has hw (by first | assumption | omega)) ?_ | with_reducible refine Rx_rd (h_many hw (by first | assumption | omega)) ?_ | with_reducible refine Rx_rd (h_stands hw (by first | assumption | omega)) ?_ | with_reducible refine Rx_rd (h_since hw (by first | assumption | omega) (by first | assumption | omega)) ?_ | with_reducible refine Rx_rd (h_legT hw (by first | assumption | omega) (by first | assumption | omega)) ?_ | with_reducible refine Rx_rd (h_legN hw (by first | assumption | omega) (by first | assumption | omega)) ?_ | with_reducible refine Rx_rd (h_legF hw (by first | assumption | omega) (by first | assumption | omega)) ?_ | with_reducible refine Rx_rd (h_early hw (by first | assumption | omega)) ?_ | with_reducible refine Rx_rd (h_few hw (by first | assumption | omega)) ?_ | with_reducible refine Rx_rd (h_bT hw) ?_ | with_reducible refine Rx_rd (h_bL hw) ?_ | with_reducible refine Rx_rd (h_bt hw) ?_ | with_reducible refine Rx_rd (h_bon hw) ?_ | with_reducible refine Rx_rd (h_boff hw) ?_ | with_reducible refine Rx_rd (h_gives hw (by first | assumption | omega)) ?_ | with_reducible refine Rx_rd (g_sz0 hw) ?_ | with_reducible refine Rx_rd (g_sz1 hw) ?_ | with_reducible refine Rx_rd (g_gt0 hw (by first | assumption | omega)) ?_ | with_reducible refine Rx_rd (g_gt1 hw (by first | assumption | omega)) ?_ | with_reducible refine Rx_rd (r_sortedAt hw (by first | assumption | omega) (by first | assumption | omega) (by first | assumption | omega)) ?_ | with_reducible refine Rx_rd (r_isFull hw (by first | assumption | omega) (by first | assumption | omega)) ?_ | with_reducible refine Rx_rd (r_stands hw wf (by first | assumption | omega)) ?_ | with_reducible refine Rx_rd (r_hasWay hw wf (by first | assumption | omega)) ?_ | with_reducible refine Rx_rd (r_arrivalY hw wf (by first | assumption | omega) (by first | assumption | omega)) ?_ | with_reducible refine Rx_rd (r_arrivedBy hw wf (by first | assumption | omega) (by first | assumption | omega)) ?_ | with_reducible refine Rx_rd (r_goneBy hw wf (by first | assumption | omega) (by first | assumption | omega)) ?_ | with_reducible refine Rx_rd (r_isLate hw wf (by first | assumption | omega)) ?_ | with_reducible refine Rx_rd (r_thereBy hw wf (by first | assumption | omega) (by first | assumption | omega)) ?_ | with_reducible refine Rx_rd (r_current hw (by first | assumption | omega)) ?_ | with_reducible refine Rx_rd (r_isEmpty hw (by first | assumption | omega)) ?_ | with_reducible refine Rx_rd (r_legNumber hw (by first | assumption | omega) (by first | assumption | omega)) ?_ | with_reducible refine Rx_rd (r_ledLegs hw wf (by first | assumption | omega)) ?_ | with_reducible refine Rx_rd (r_beginning hw wf (by first | assumption | omega)) ?_ | with_reducible refine Rx_rd (r_mayFollow hw wf (by first | assumption | omega) (by first | assumption | omega) (by first | assumption | omega)) ?_ | with_reducible refine Rx_rd (r_beginsAfter hw wf (by first | assumption | omega) (by first | assumption | omega)) ?_ | with_reducible refine Rx_rd (r_node hw) ?_ | with_reducible refine Rx_rd (r_legAt hw) ?_ | with_reducible refine Rx_rd (r_Mway hw wt (by first | assumption | omega)) ?_ | with_reducible refine Rx_rd (r_Mto hw wt (by first | assumption | omega)) ?_ | with_reducible refine Rx_rd (r_Mfrom hw wt (by first | assumption | omega)) ?_ | with_reducible refine Rx_rd (r_Mready hw wt (by first | assumption | omega)) ?_ | with_reducible refine Rx_rd (r_Msorted hw wt (by first | assumption | omega)) ?_ | with_reducible refine Rx_rd (r_Mbehind hw wt (by first | assumption | omega) (by first | assumption | omega) (by first | assumption | omega)) ?_ | with_reducible refine Rx_rd (r_Mthere hw wt (by first | assumption | omega)) ?_ | with_reducible refine Rx_rd (r_Mfree hw (by first | assumption | omega) (by first | assumption | omega) (by first | assumption | omega)) ?_ | with_reducible refine Rx_rd (r_Mgone hw wt (by first | assumption | omega)) ?_ | with_reducible refine Rx_rd (r_Mlate hw wt (by first | assumption | omega)) ?_))
    refine Rx_neg (by rw [nI_leI (by omega) (by omega)]; omega) ?_
    (repeat (first | with_reducible refine Rx_assoc ?_ | (simp (disch := omega) only [nL_0, nL_1, nL_2, nL_3, nL_4, nL_5, nL_6, nL_7, nL_10, nL_16, nL_31, nL_40, nL_60, nL_120, nL_160, nL_1439, nL_1000000, nL_10000000, nL_268435456, nI_clamp, nI_1, nI_add, nI_sub, nI_pred, nI_mulI]) | with_reducible refine Rx_rd (g_row3 (by first | assumption | omega)) ?_ | with_reducible refine Rx_rd (g_row4 (by first | assumption | omega)) ?_ | with_reducible refine Rx_rd (g_chk0 hw) ?_ | with_reducible refine Rx_rd (g_chk01 hw) ?_ | with_reducible refine Rx_rd (g_chk1 hw (by first | assumption | omega)) ?_ | with_reducible refine Rx_rd (g_chk2 hw) ?_ | with_reducible refine Rx_rd (g_chk3 hw) ?_ | with_reducible refine Rx_rd (g_chk4 hw (by first | assumption | omega)) ?_ | with_reducible refine Rx_rd (g_chk5 hw (by first | assumption | omega)) ?_ | with_reducible refine Rx_rd (g_chk6 hw) ?_ | with_reducible refine Rx_rd (g_chk7 hw) ?_ | with_reducible refine Rx_rd (g_gO0 hw (by first | assumption | omega)) ?_ | with_reducible refine Rx_rd (g_gB hw (by first | assumption | omega) (by first | assumption | omega)) ?_ | with_reducible refine Rx_rd (g_st hw) ?_ | with_reducible refine Rx_rd (g_ca hw) ?_ | with_reducible refine Rx_rd (g_now hw) ?_ | with_reducible refine Rx_rd (g_sort hw (by first | assumption | omega)) ?_ | with_reducible refine Rx_rd (g_room hw (by first | assumption | omega)) ?_ | with_reducible refine Rx_rd (g_stops hw (by first | assumption | omega)) ?_ | with_reducible refine Rx_rd (g_canc hw (by first | assumption | omega)) ?_ | with_reducible refine Rx_rd (g_sta hw (by first | assumption | omega) (by first | assumption | omega)) ?_ | with_reducible refine Rx_rd (g_min hw (by first | assumption | omega) (by first | assumption | omega)) ?_ | with_reducible refine Rx_rd (g_load hw (by first | assumption | omega) (by first | assumption | omega)) ?_ | with_reducible refine Rx_rd (g_from hw (by first | assumption | omega)) ?_ | with_reducible refine Rx_rd (g_wfrom hw (by first | assumption | omega)) ?_ | with_reducible refine Rx_rd (g_ready hw (by first | assumption | omega)) ?_ | with_reducible refine Rx_rd (g_to hw (by first | assumption | omega)) ?_ | with_reducible refine Rx_rd (g_wto hw (by first | assumption | omega)) ?_ | with_reducible refine Rx_rd (g_due hw (by first | assumption | omega)) ?_ | with_reducible refine Rx_rd (g_many hw (by first | assumption | omega)) ?_ | with_reducible refine Rx_rd (g_had hw (by first | assumption | omega)) ?_ | with_reducible refine Rx_rd (g_there hw (by first | assumption | omega)) ?_ | with_reducible refine Rx_rd (g_stands hw (by first | assumption | omega)) ?_ | with_reducible refine Rx_rd (g_since hw (by first | assumption | omega)) ?_ | with_reducible refine Rx_rd (g_off hw (by first | assumption | omega)) ?_ | with_reducible refine Rx_rd (g_leg hw (by first | assumption | omega) (by first | assumption | omega)) ?_ | with_reducible refine Rx_rd (g_days hw (by first | assumption | omega)) ?_ | with_reducible refine Rx_rd (g_earl hw (by first | assumption | omega) (by first | assumption | omega)) ?_ | with_reducible refine Rx_rd (g_late hw (by first | assumption | omega) (by first | assumption | omega)) ?_ | with_reducible refine Rx_rd (g_marks hw (by first | assumption | omega)) ?_ | with_reducible refine Rx_rd (h_code hw) ?_ | with_reducible refine Rx_rd (h_now hw) ?_ | with_reducible refine Rx_rd (h_st hw) ?_ | with_reducible refine Rx_rd (h_tr hw) ?_ | with_reducible refine Rx_rd (h_bx hw) ?_ | with_reducible refine Rx_rd (h_ca hw) ?_ | with_reducible refine Rx_rd (h_sort hw (by first | assumption | omega)) ?_ | with_reducible refine Rx_rd (h_room hw (by first | assumption | omega)) ?_ | with_reducible refine Rx_rd (h_stops hw (by first | assumption | omega)) ?_ | with_reducible refine Rx_rd (h_sta hw (by first | assumption | omega) (by first | assumption | omega)) ?_ | with_reducible refine Rx_rd (h_min hw (by first | assumption | omega) (by first | assumption | omega)) ?_ | with_reducible refine Rx_rd (h_load hw (by first | assumption | omega) (by first | assumption | omega)) ?_ | with_reducible refine Rx_rd (h_days hw (by first | assumption | omega)) ?_ | with_reducible refine Rx_rd (h_canc hw (by first | assumption | omega)) ?_ | with_reducible refine Rx_rd (h_home hw (by first | assumption | omega)) ?_ | with_reducible refine Rx_rd (h_walk hw (by first | assumption | omega)) ?_ | with_reducible refine Rx_rd (h_ready hw (by first | assumption | omega)) ?_ | with_reducible refine Rx_rd (h_desk hw (by first | assumption | omega)) ?_ | with_reducible refine Rx_rd (h_walkT hw (by first | assumption | omega)) ?_ | with_reducible refine Rx_rd (h_due hw (by first | assumption | omega)) ?_ | with_reducible refine Rx_rd (h_rback hw (by first | assumption | omega)) ?_ | with_reducible refine Rx_rd (h_emp hw (by first | assumption | omega)) ?_ | with_reducible refine Rx_rd (h_had hw (by first | assumption | omega)) ?_ | with_reducible refine Rx_rd (h_has hw (by first | assumption | omega)) ?_ | with_reducible refine Rx_rd (h_many hw (by first | assumption | omega)) ?_ | with_reducible refine Rx_rd (h_stands hw (by first | assumption | omega)) ?_ | with_reducible refine Rx_rd (h_since hw (by first | assumption | omega) (by first | assumption | omega)) ?_ | with_reducible refine Rx_rd (h_legT hw (by first | assumption | omega) (by first | assumption | omega)) ?_ | with_reducible refine Rx_rd (h_legN hw (by first | assumption | omega) (by first | assumption | omega)) ?_ | with_reducible refine Rx_rd (h_legF hw (by first | assumption | omega) (by first | assumption | omega)) ?_ | with_reducible refine Rx_rd (h_early hw (by first | assumption | omega)) ?_ | with_reducible refine Rx_rd (h_few hw (by first | assumption | omega)) ?_ | with_reducible refine Rx_rd (h_bT hw) ?_ | with_reducible refine Rx_rd (h_bL hw) ?_ | with_reducible refine Rx_rd (h_bt hw) ?_ | with_reducible refine Rx_rd (h_bon hw) ?_ | with_reducible refine Rx_rd (h_boff hw) ?_ | with_reducible refine Rx_rd (h_gives hw (by first | assumption | omega)) ?_ | with_reducible refine Rx_rd (g_sz0 hw) ?_ | with_reducible refine Rx_rd (g_sz1 hw) ?_ | with_reducible refine Rx_rd (g_gt0 hw (by first | assumption | omega)) ?_ | with_reducible refine Rx_rd (g_gt1 hw (by first | assumption | omega)) ?_ | with_reducible refine Rx_rd (r_sortedAt hw (by first | assumption | omega) (by first | assumption | omega) (by first | assumption | omega)) ?_ | with_reducible refine Rx_rd (r_isFull hw (by first | assumption | omega) (by first | assumption | omega)) ?_ | with_reducible refine Rx_rd (r_stands hw wf (by first | assumption | omega)) ?_ | with_reducible refine Rx_rd (r_hasWay hw wf (by first | assumption | omega)) ?_ | with_reducible refine Rx_rd (r_arrivalY hw wf (by first | assumption | omega) (by first | assumption | omega)) ?_ | with_reducible refine Rx_rd (r_arrivedBy hw wf (by first | assumption | omega) (by first | assumption | omega)) ?_ | with_reducible refine Rx_rd (r_goneBy hw wf (by first | assumption | omega) (by first | assumption | omega)) ?_ | with_reducible refine Rx_rd (r_isLate hw wf (by first | assumption | omega)) ?_ | with_reducible refine Rx_rd (r_thereBy hw wf (by first | assumption | omega) (by first | assumption | omega)) ?_ | with_reducible refine Rx_rd (r_current hw (by first | assumption | omega)) ?_ | with_reducible refine Rx_rd (r_isEmpty hw (by first | assumption | omega)) ?_ | with_reducible refine Rx_rd (r_legNumber hw (by first | assumption | omega) (by first | assumption | omega)) ?_ | with_reducible refine Rx_rd (r_ledLegs hw wf (by first | assumption | omega)) ?_ | with_reducible refine Rx_rd (r_beginning hw wf (by first | assumption | omega)) ?_ | with_reducible refine Rx_rd (r_mayFollow hw wf (by first | assumption | omega) (by first | assumption | omega) (by first | assumption | omega)) ?_ | with_reducible refine Rx_rd (r_beginsAfter hw wf (by first | assumption | omega) (by first | assumption | omega)) ?_ | with_reducible refine Rx_rd (r_node hw) ?_ | with_reducible refine Rx_rd (r_legAt hw) ?_ | with_reducible refine Rx_rd (r_Mway hw wt (by first | assumption | omega)) ?_ | with_reducible refine Rx_rd (r_Mto hw wt (by first | assumption | omega)) ?_ | with_reducible refine Rx_rd (r_Mfrom hw wt (by first | assumption | omega)) ?_ | with_reducible refine Rx_rd (r_Mready hw wt (by first | assumption | omega)) ?_ | with_reducible refine Rx_rd (r_Msorted hw wt (by first | assumption | omega)) ?_ | with_reducible refine Rx_rd (r_Mbehind hw wt (by first | assumption | omega) (by first | assumption | omega) (by first | assumption | omega)) ?_ | with_reducible refine Rx_rd (r_Mthere hw wt (by first | assumption | omega)) ?_ | with_reducible refine Rx_rd (r_Mfree hw (by first | assumption | omega) (by first | assumption | omega) (by first | assumption | omega)) ?_ | with_reducible refine Rx_rd (r_Mgone hw wt (by first | assumption | omega)) ?_ | with_reducible refine Rx_rd (r_Mlate hw wt (by first | assumption | omega)) ?_))
    refine Rx_ifb (fun h => ?_) (fun h => ?_)
    · have e : cW σ (i + 1) = cW σ i := by show cW σ i + (if _ then 1 else 0) = _; rw [if_neg h]; rfl
      have := ih f' (i + 1) (by omega) (by omega)
      rw [e] at this
      exact this
    · have e : cW σ (i + 1) = cW σ i + 1 := by show cW σ i + (if _ then 1 else 0) = _; rw [if_pos h]
      have := ih f' (i + 1) (by omega) (by omega)
      rw [e] at this
      exact this
theorem L_cL (wf : WF σ) (hw : Wd σ κ τ μ z w) : ∀ (n f i : Nat), i + n = σ 0 3 0 → n ≤ f → Rx (p_X5_lateBoxes_L4 (fun y => prt y) (f + 1) (nI (cL σ i)) (nI i)) w (fun v w' => v = nI (cL σ (σ 0 3 0)) ∧ w' = w) NE := by
  have hbx := wf.bx
  intro n
  induction n with
  | zero =>
    intro f i h1 h2
    have : i = σ 0 3 0 := by omega
    subst this
    rw [p_X5_lateBoxes_L4]
    (repeat (first | with_reducible refine Rx_assoc ?_ | (simp (disch := omega) only [nL_0, nL_1, nL_2, nL_3, nL_4, nL_5, nL_6, nL_7, nL_10, nL_16, nL_31, nL_40, nL_60, nL_120, nL_160, nL_1439, nL_1000000, nL_10000000, nL_268435456, nI_clamp, nI_1, nI_add, nI_sub, nI_pred, nI_mulI]) | with_reducible refine Rx_rd (g_row3 (by first | assumption | omega)) ?_ | with_reducible refine Rx_rd (g_row4 (by first | assumption | omega)) ?_ | with_reducible refine Rx_rd (g_chk0 hw) ?_ | with_reducible refine Rx_rd (g_chk01 hw) ?_ | with_reducible refine Rx_rd (g_chk1 hw (by first | assumption | omega)) ?_ | with_reducible refine Rx_rd (g_chk2 hw) ?_ | with_reducible refine Rx_rd (g_chk3 hw) ?_ | with_reducible refine Rx_rd (g_chk4 hw (by first | assumption | omega)) ?_ | with_reducible refine Rx_rd (g_chk5 hw (by first | assumption | omega)) ?_ | with_reducible refine Rx_rd (g_chk6 hw) ?_ | with_reducible refine Rx_rd (g_chk7 hw) ?_ | with_reducible refine Rx_rd (g_gO0 hw (by first | assumption | omega)) ?_ | with_reducible refine Rx_rd (g_gB hw (by first | assumption | omega) (by first | assumption | omega)) ?_ | with_reducible refine Rx_rd (g_st hw) ?_ | with_reducible refine Rx_rd (g_ca hw) ?_ | with_reducible refine Rx_rd (g_now hw) ?_ | with_reducible refine Rx_rd (g_sort hw (by first | assumption | omega)) ?_ | with_reducible refine Rx_rd (g_room hw (by first | assumption | omega)) ?_ | with_reducible refine Rx_rd (g_stops hw (by first | assumption | omega)) ?_ | with_reducible refine Rx_rd (g_canc hw (by first | assumption | omega)) ?_ | with_reducible refine Rx_rd (g_sta hw (by first | assumption | omega) (by first | assumption | omega)) ?_ | with_reducible refine Rx_rd (g_min hw (by first | assumption | omega) (by first | assumption | omega)) ?_ | with_reducible refine Rx_rd (g_load hw (by first | assumption | omega) (by first | assumption | omega)) ?_ | with_reducible refine Rx_rd (g_from hw (by first | assumption | omega)) ?_ | with_reducible refine Rx_rd (g_wfrom hw (by first | assumption | omega)) ?_ | with_reducible refine Rx_rd (g_ready hw (by first | assumption | omega)) ?_ | with_reducible refine Rx_rd (g_to hw (by first | assumption | omega)) ?_ | with_reducible refine Rx_rd (g_wto hw (by first | assumption | omega)) ?_ | with_reducible refine Rx_rd (g_due hw (by first | assumption | omega)) ?_ | with_reducible refine Rx_rd (g_many hw (by first | assumption | omega)) ?_ | with_reducible refine Rx_rd (g_had hw (by first | assumption | omega)) ?_ | with_reducible refine Rx_rd (g_there hw (by first | assumption | omega)) ?_ | with_reducible refine Rx_rd (g_stands hw (by first | assumption | omega)) ?_ | with_reducible refine Rx_rd (g_since hw (by first | assumption | omega)) ?_ | with_reducible refine Rx_rd (g_off hw (by first | assumption | omega)) ?_ | with_reducible refine Rx_rd (g_leg hw (by first | assumption | omega) (by first | assumption | omega)) ?_ | with_reducible refine Rx_rd (g_days hw (by first | assumption | omega)) ?_ | with_reducible refine Rx_rd (g_earl hw (by first | assumption | omega) (by first | assumption | omega)) ?_ | with_reducible refine Rx_rd (g_late hw (by first | assumption | omega) (by first | assumption | omega)) ?_ | with_reducible refine Rx_rd (g_marks hw (by first | assumption | omega)) ?_ | with_reducible refine Rx_rd (h_code hw) ?_ | with_reducible refine Rx_rd (h_now hw) ?_ | with_reducible refine Rx_rd (h_st hw) ?_ | with_reducible refine Rx_rd (h_tr hw) ?_ | with_reducible refine Rx_rd (h_bx hw) ?_ | with_reducible refine Rx_rd (h_ca hw) ?_ | with_reducible refine Rx_rd (h_sort hw (by first | assumption | omega)) ?_ | with_reducible refine Rx_rd (h_room hw (by first | assumption | omega)) ?_ | with_reducible refine Rx_rd (h_stops hw (by first | assumption | omega)) ?_ | with_reducible refine Rx_rd (h_sta hw (by first | assumption | omega) (by first | assumption | omega)) ?_ | with_reducible refine Rx_rd (h_min hw (by first | assumption | omega) (by first | assumption | omega)) ?_ | with_reducible refine Rx_rd (h_load hw (by first | assumption | omega) (by first | assumption | omega)) ?_ | with_reducible refine Rx_rd (h_days hw (by first | assumption | omega)) ?_ | with_reducible refine Rx_rd (h_canc hw (by first | assumption | omega)) ?_ | with_reducible refine Rx_rd (h_home hw (by first | assumption | omega)) ?_ | with_reducible refine Rx_rd (h_walk hw (by first | assumption | omega)) ?_ | with_reducible refine Rx_rd (h_ready hw (by first | assumption | omega)) ?_ | with_reducible refine Rx_rd (h_desk hw (by first | assumption | omega)) ?_ | with_reducible refine Rx_rd (h_walkT hw (by first | assumption | omega)) ?_ | with_reducible refine Rx_rd (h_due hw (by first | assumption | omega)) ?_ | with_reducible refine Rx_rd (h_rback hw (by first | assumption | omega)) ?_ | with_reducible refine Rx_rd (h_emp hw (by first | assumption | omega)) ?_ | with_reducible refine Rx_rd (h_had hw (by first | assumption | omega)) ?_ | with_reducible refine Rx_rd (h_has hw (by first | assumption | omega)) ?_ | with_reducible refine Rx_rd (h_many hw (by first | assumption | omega)) ?_ | with_reducible refine Rx_rd (h_stands hw (by first | assumption | omega)) ?_ | with_reducible refine Rx_rd (h_since hw (by first | assumption | omega) (by first | assumption | omega)) ?_ | with_reducible refine Rx_rd (h_legT hw (by first | assumption | omega) (by first | assumption | omega)) ?_ | with_reducible refine Rx_rd (h_legN hw (by first | assumption | omega) (by first | assumption | omega)) ?_ | with_reducible refine Rx_rd (h_legF hw (by first | assumption | omega) (by first | assumption | omega)) ?_ | with_reducible refine Rx_rd (h_early hw (by first | assumption | omega)) ?_ | with_reducible refine Rx_rd (h_few hw (by first | assumption | omega)) ?_ | with_reducible refine Rx_rd (h_bT hw) ?_ | with_reducible refine Rx_rd (h_bL hw) ?_ | with_reducible refine Rx_rd (h_bt hw) ?_ | with_reducible refine Rx_rd (h_bon hw) ?_ | with_reducible refine Rx_rd (h_boff hw) ?_ | with_reducible refine Rx_rd (h_gives hw (by first | assumption | omega)) ?_ | with_reducible refine Rx_rd (g_sz0 hw) ?_ | with_reducible refine Rx_rd (g_sz1 hw) ?_ | with_reducible refine Rx_rd (g_gt0 hw (by first | assumption | omega)) ?_ | with_reducible refine Rx_rd (g_gt1 hw (by first | assumption | omega)) ?_ | with_reducible refine Rx_rd (r_sortedAt hw (by first | assumption | omega) (by first | assumption | omega) (by first | assumption | omega)) ?_ | with_reducible refine Rx_rd (r_isFull hw (by first | assumption | omega) (by first | assumption | omega)) ?_ | with_reducible refine Rx_rd (r_stands hw wf (by first | assumption | omega)) ?_ | with_reducible refine Rx_rd (r_hasWay hw wf (by first | assumption | omega)) ?_ | with_reducible refine Rx_rd (r_arrivalY hw wf (by first | assumption | omega) (by first | assumption | omega)) ?_ | with_reducible refine Rx_rd (r_arrivedBy hw wf (by first | assumption | omega) (by first | assumption | omega)) ?_ | with_reducible refine Rx_rd (r_goneBy hw wf (by first | assumption | omega) (by first | assumption | omega)) ?_ | with_reducible refine Rx_rd (r_isLate hw wf (by first | assumption | omega)) ?_ | with_reducible refine Rx_rd (r_thereBy hw wf (by first | assumption | omega) (by first | assumption | omega)) ?_ | with_reducible refine Rx_rd (r_current hw (by first | assumption | omega)) ?_ | with_reducible refine Rx_rd (r_isEmpty hw (by first | assumption | omega)) ?_ | with_reducible refine Rx_rd (r_legNumber hw (by first | assumption | omega) (by first | assumption | omega)) ?_ | with_reducible refine Rx_rd (r_ledLegs hw wf (by first | assumption | omega)) ?_ | with_reducible refine Rx_rd (r_beginning hw wf (by first | assumption | omega)) ?_ | with_reducible refine Rx_rd (r_mayFollow hw wf (by first | assumption | omega) (by first | assumption | omega) (by first | assumption | omega)) ?_ | with_reducible refine Rx_rd (r_beginsAfter hw wf (by first | assumption | omega) (by first | assumption | omega)) ?_ | with_reducible refine Rx_rd (r_node hw) ?_ | with_reducible refine Rx_rd (r_legAt hw) ?_ | with_reducible refine Rx_rd (r_Mway hw wt (by first | assumption | omega)) ?_ | with_reducible refine Rx_rd (r_Mto hw wt (by first | assumption | omega)) ?_ | with_reducible refine Rx_rd (r_Mfrom hw wt (by first | assumption | omega)) ?_ | with_reducible refine Rx_rd (r_Mready hw wt (by first | assumption | omega)) ?_ | with_reducible refine Rx_rd (r_Msorted hw wt (by first | assumption | omega)) ?_ | with_reducible refine Rx_rd (r_Mbehind hw wt (by first | assumption | omega) (by first | assumption | omega) (by first | assumption | omega)) ?_ | with_reducible refine Rx_rd (r_Mthere hw wt (by first | assumption | omega)) ?_ | with_reducible refine Rx_rd (r_Mfree hw (by first | assumption | omega) (by first | assumption | omega) (by first | assumption | omega)) ?_ | with_reducible refine Rx_rd (r_Mgone hw wt (by first | assumption | omega)) ?_ | with_reducible refine Rx_rd (r_Mlate hw wt (by first | assumption | omega)) ?_))
    exact Rx_pos (by rw [nI_leI (by omega) (by omega)]; omega) (Rx_rt ⟨rfl, rfl⟩)
  | succ n ih =>
    intro f i h1 h2
    obtain ⟨f', rfl⟩ : ∃ f', f = f' + 1 := ⟨f - 1, by omega⟩
    have hi : i < σ 0 3 0 := by omega
    have hio := cur_ok wf hi
    rw [p_X5_lateBoxes_L4]
    unfold p_X5_lateBoxes_b38
    (repeat (first | with_reducible refine Rx_assoc ?_ | (simp (disch := omega) only [nL_0, nL_1, nL_2, nL_3, nL_4, nL_5, nL_6, nL_7, nL_10, nL_16, nL_31, nL_40, nL_60, nL_120, nL_160, nL_1439, nL_1000000, nL_10000000, nL_268435456, nI_clamp, nI_1, nI_add, nI_sub, nI_pred, nI_mulI]) | with_reducible refine Rx_rd (g_row3 (by first | assumption | omega)) ?_ | with_reducible refine Rx_rd (g_row4 (by first | assumption | omega)) ?_ | with_reducible refine Rx_rd (g_chk0 hw) ?_ | with_reducible refine Rx_rd (g_chk01 hw) ?_ | with_reducible refine Rx_rd (g_chk1 hw (by first | assumption | omega)) ?_ | with_reducible refine Rx_rd (g_chk2 hw) ?_ | with_reducible refine Rx_rd (g_chk3 hw) ?_ | with_reducible refine Rx_rd (g_chk4 hw (by first | assumption | omega)) ?_ | with_reducible refine Rx_rd (g_chk5 hw (by first | assumption | omega)) ?_ | with_reducible refine Rx_rd (g_chk6 hw) ?_ | with_reducible refine Rx_rd (g_chk7 hw) ?_ | with_reducible refine Rx_rd (g_gO0 hw (by first | assumption | omega)) ?_ | with_reducible refine Rx_rd (g_gB hw (by first | assumption | omega) (by first | assumption | omega)) ?_ | with_reducible refine Rx_rd (g_st hw) ?_ | with_reducible refine Rx_rd (g_ca hw) ?_ | with_reducible refine Rx_rd (g_now hw) ?_ | with_reducible refine Rx_rd (g_sort hw (by first | assumption | omega)) ?_ | with_reducible refine Rx_rd (g_room hw (by first | assumption | omega)) ?_ | with_reducible refine Rx_rd (g_stops hw (by first | assumption | omega)) ?_ | with_reducible refine Rx_rd (g_canc hw (by first | assumption | omega)) ?_ | with_reducible refine Rx_rd (g_sta hw (by first | assumption | omega) (by first | assumption | omega)) ?_ | with_reducible refine Rx_rd (g_min hw (by first | assumption | omega) (by first | assumption | omega)) ?_ | with_reducible refine Rx_rd (g_load hw (by first | assumption | omega) (by first | assumption | omega)) ?_ | with_reducible refine Rx_rd (g_from hw (by first | assumption | omega)) ?_ | with_reducible refine Rx_rd (g_wfrom hw (by first | assumption | omega)) ?_ | with_reducible refine Rx_rd (g_ready hw (by first | assumption | omega)) ?_ | with_reducible refine Rx_rd (g_to hw (by first | assumption | omega)) ?_ | with_reducible refine Rx_rd (g_wto hw (by first | assumption | omega)) ?_ | with_reducible refine Rx_rd (g_due hw (by first | assumption | omega)) ?_ | with_reducible refine Rx_rd (g_many hw (by first | assumption | omega)) ?_ | with_reducible refine Rx_rd (g_had hw (by first | assumption | omega)) ?_ | with_reducible refine Rx_rd (g_there hw (by first | assumption | omega)) ?_ | with_reducible refine Rx_rd (g_stands hw (by first | assumption | omega)) ?_ | with_reducible refine Rx_rd (g_since hw (by first | assumption | omega)) ?_ | with_reducible refine Rx_rd (g_off hw (by first | assumption | omega)) ?_ | with_reducible refine Rx_rd (g_leg hw (by first | assumption | omega) (by first | assumption | omega)) ?_ | with_reducible refine Rx_rd (g_days hw (by first | assumption | omega)) ?_ | with_reducible refine Rx_rd (g_earl hw (by first | assumption | omega) (by first | assumption | omega)) ?_ | with_reducible refine Rx_rd (g_late hw (by first | assumption | omega) (by first | assumption | omega)) ?_ | with_reducible refine Rx_rd (g_marks hw (by first | assumption | omega)) ?_ | with_reducible refine Rx_rd (h_code hw) ?_ | with_reducible refine Rx_rd (h_now hw) ?_ | with_reducible refine Rx_rd (h_st hw) ?_ | with_reducible refine Rx_rd (h_tr hw) ?_ | with_reducible refine Rx_rd (h_bx hw) ?_ | with_reducible refine Rx_rd (h_ca hw) ?_ | with_reducible refine Rx_rd (h_sort hw (by first | assumption | omega)) ?_ | with_reducible refine Rx_rd (h_room hw (by first | assumption | omega)) ?_ | with_reducible refine Rx_rd (h_stops hw (by first | assumption | omega)) ?_ | with_reducible refine Rx_rd (h_sta hw (by first | assumption | omega) (by first | assumption | omega)) ?_ | with_reducible refine Rx_rd (h_min hw (by first | assumption | omega) (by first | assumption | omega)) ?_ | with_reducible refine Rx_rd (h_load hw (by first | assumption | omega) (by first | assumption | omega)) ?_ | with_reducible refine Rx_rd (h_days hw (by first | assumption | omega)) ?_ | with_reducible refine Rx_rd (h_canc hw (by first | assumption | omega)) ?_ | with_reducible refine Rx_rd (h_home hw (by first | assumption | omega)) ?_ | with_reducible refine Rx_rd (h_walk hw (by first | assumption | omega)) ?_ | with_reducible refine Rx_rd (h_ready hw (by first | assumption | omega)) ?_ | with_reducible refine Rx_rd (h_desk hw (by first | assumption | omega)) ?_ | with_reducible refine Rx_rd (h_walkT hw (by first | assumption | omega)) ?_ | with_reducible refine Rx_rd (h_due hw (by first | assumption | omega)) ?_ | with_reducible refine Rx_rd (h_rback hw (by first | assumption | omega)) ?_ | with_reducible refine Rx_rd (h_emp hw (by first | assumption | omega)) ?_ | with_reducible refine Rx_rd (h_had hw (by first | assumption | omega)) ?_ | with_reducible refine Rx_rd (h_has hw (by first | assumption | omega)) ?_ | with_reducible refine Rx_rd (h_many hw (by first | assumption | omega)) ?_ | with_reducible refine Rx_rd (h_stands hw (by first | assumption | omega)) ?_ | with_reducible refine Rx_rd (h_since hw (by first | assumption | omega) (by first | assumption | omega)) ?_ | with_reducible refine Rx_rd (h_legT hw (by first | assumption | omega) (by first | assumption | omega)) ?_ | with_reducible refine Rx_rd (h_legN hw (by first | assumption | omega) (by first | assumption | omega)) ?_ | with_reducible refine Rx_rd (h_legF hw (by first | assumption | omega) (by first | assumption | omega)) ?_ | with_reducible refine Rx_rd (h_early hw (by first | assumption | omega)) ?_ | with_reducible refine Rx_rd (h_few hw (by first | assumption | omega)) ?_ | with_reducible refine Rx_rd (h_bT hw) ?_ | with_reducible refine Rx_rd (h_bL hw) ?_ | with_reducible refine Rx_rd (h_bt hw) ?_ | with_reducible refine Rx_rd (h_bon hw) ?_ | with_reducible refine Rx_rd (h_boff hw) ?_ | with_reducible refine Rx_rd (h_gives hw (by first | assumption | omega)) ?_ | with_reducible refine Rx_rd (g_sz0 hw) ?_ | with_reducible refine Rx_rd (g_sz1 hw) ?_ | with_reducible refine Rx_rd (g_gt0 hw (by first | assumption | omega)) ?_ | with_reducible refine Rx_rd (g_gt1 hw (by first | assumption | omega)) ?_ | with_reducible refine Rx_rd (r_sortedAt hw (by first | assumption | omega) (by first | assumption | omega) (by first | assumption | omega)) ?_ | with_reducible refine Rx_rd (r_isFull hw (by first | assumption | omega) (by first | assumption | omega)) ?_ | with_reducible refine Rx_rd (r_stands hw wf (by first | assumption | omega)) ?_ | with_reducible refine Rx_rd (r_hasWay hw wf (by first | assumption | omega)) ?_ | with_reducible refine Rx_rd (r_arrivalY hw wf (by first | assumption | omega) (by first | assumption | omega)) ?_ | with_reducible refine Rx_rd (r_arrivedBy hw wf (by first | assumption | omega) (by first | assumption | omega)) ?_ | with_reducible refine Rx_rd (r_goneBy hw wf (by first | assumption | omega) (by first | assumption | omega)) ?_ | with_reducible refine Rx_rd (r_isLate hw wf (by first | assumption | omega)) ?_ | with_reducible refine Rx_rd (r_thereBy hw wf (by first | assumption | omega) (by first | assumption | omega)) ?_ | with_reducible refine Rx_rd (r_current hw (by first | assumption | omega)) ?_ | with_reducible refine Rx_rd (r_isEmpty hw (by first | assumption | omega)) ?_ | with_reducible refine Rx_rd (r_legNumber hw (by first | assumption | omega) (by first | assumption | omega)) ?_ | with_reducible refine Rx_rd (r_ledLegs hw wf (by first | assumption | omega)) ?_ | with_reducible refine Rx_rd (r_beginning hw wf (by first | assumption | omega)) ?_ | with_reducible refine Rx_rd (r_mayFollow hw wf (by first | assumption | omega) (by first | assumption | omega) (by first | assumption | omega)) ?_ | with_reducible refine Rx_rd (r_beginsAfter hw wf (by first | assumption | omega) (by first | assumption | omega)) ?_ | with_reducible refine Rx_rd (r_node hw) ?_ | with_reducible refine Rx_rd (r_legAt hw) ?_ | with_reducible refine Rx_rd (r_Mway hw wt (by first | assumption | omega)) ?_ | with_reducible refine Rx_rd (r_Mto hw wt (by first | assumption | omega)) ?_ | with_reducible refine Rx_rd (r_Mfrom hw wt (by first | assumption | omega)) ?_ | with_reducible refine Rx_rd (r_Mready hw wt (by first | assumption | omega)) ?_ | with_reducible refine Rx_rd (r_Msorted hw wt (by first | assumption | omega)) ?_ | with_reducible refine Rx_rd (r_Mbehind hw wt (by first | assumption | omega) (by first | assumption | omega) (by first | assumption | omega)) ?_ | with_reducible refine Rx_rd (r_Mthere hw wt (by first | assumption | omega)) ?_ | with_reducible refine Rx_rd (r_Mfree hw (by first | assumption | omega) (by first | assumption | omega) (by first | assumption | omega)) ?_ | with_reducible refine Rx_rd (r_Mgone hw wt (by first | assumption | omega)) ?_ | with_reducible refine Rx_rd (r_Mlate hw wt (by first | assumption | omega)) ?_))
    refine Rx_neg (by rw [nI_leI (by omega) (by omega)]; omega) ?_
    (repeat (first | with_reducible refine Rx_assoc ?_ | (simp (disch := omega) only [nL_0, nL_1, nL_2, nL_3, nL_4, nL_5, nL_6, nL_7, nL_10, nL_16, nL_31, nL_40, nL_60, nL_120, nL_160, nL_1439, nL_1000000, nL_10000000, nL_268435456, nI_clamp, nI_1, nI_add, nI_sub, nI_pred, nI_mulI]) | with_reducible refine Rx_rd (g_row3 (by first | assumption | omega)) ?_ | with_reducible refine Rx_rd (g_row4 (by first | assumption | omega)) ?_ | with_reducible refine Rx_rd (g_chk0 hw) ?_ | with_reducible refine Rx_rd (g_chk01 hw) ?_ | with_reducible refine Rx_rd (g_chk1 hw (by first | assumption | omega)) ?_ | with_reducible refine Rx_rd (g_chk2 hw) ?_ | with_reducible refine Rx_rd (g_chk3 hw) ?_ | with_reducible refine Rx_rd (g_chk4 hw (by first | assumption | omega)) ?_ | with_reducible refine Rx_rd (g_chk5 hw (by first | assumption | omega)) ?_ | with_reducible refine Rx_rd (g_chk6 hw) ?_ | with_reducible refine Rx_rd (g_chk7 hw) ?_ | with_reducible refine Rx_rd (g_gO0 hw (by first | assumption | omega)) ?_ | with_reducible refine Rx_rd (g_gB hw (by first | assumption | omega) (by first | assumption | omega)) ?_ | with_reducible refine Rx_rd (g_st hw) ?_ | with_reducible refine Rx_rd (g_ca hw) ?_ | with_reducible refine Rx_rd (g_now hw) ?_ | with_reducible refine Rx_rd (g_sort hw (by first | assumption | omega)) ?_ | with_reducible refine Rx_rd (g_room hw (by first | assumption | omega)) ?_ | with_reducible refine Rx_rd (g_stops hw (by first | assumption | omega)) ?_ | with_reducible refine Rx_rd (g_canc hw (by first | assumption | omega)) ?_ | with_reducible refine Rx_rd (g_sta hw (by first | assumption | omega) (by first | assumption | omega)) ?_ | with_reducible refine Rx_rd (g_min hw (by first | assumption | omega) (by first | assumption | omega)) ?_ | with_reducible refine Rx_rd (g_load hw (by first | assumption | omega) (by first | assumption | omega)) ?_ | with_reducible refine Rx_rd (g_from hw (by first | assumption | omega)) ?_ | with_reducible refine Rx_rd (g_wfrom hw (by first | assumption | omega)) ?_ | with_reducible refine Rx_rd (g_ready hw (by first | assumption | omega)) ?_ | with_reducible refine Rx_rd (g_to hw (by first | assumption | omega)) ?_ | with_reducible refine Rx_rd (g_wto hw (by first | assumption | omega)) ?_ | with_reducible refine Rx_rd (g_due hw (by first | assumption | omega)) ?_ | with_reducible refine Rx_rd (g_many hw (by first | assumption | omega)) ?_ | with_reducible refine Rx_rd (g_had hw (by first | assumption | omega)) ?_ | with_reducible refine Rx_rd (g_there hw (by first | assumption | omega)) ?_ | with_reducible refine Rx_rd (g_stands hw (by first | assumption | omega)) ?_ | with_reducible refine Rx_rd (g_since hw (by first | assumption | omega)) ?_ | with_reducible refine Rx_rd (g_off hw (by first | assumption | omega)) ?_ | with_reducible refine Rx_rd (g_leg hw (by first | assumption | omega) (by first | assumption | omega)) ?_ | with_reducible refine Rx_rd (g_days hw (by first | assumption | omega)) ?_ | with_reducible refine Rx_rd (g_earl hw (by first | assumption | omega) (by first | assumption | omega)) ?_ | with_reducible refine Rx_rd (g_late hw (by first | assumption | omega) (by first | assumption | omega)) ?_ | with_reducible refine Rx_rd (g_marks hw (by first | assumption | omega)) ?_ | with_reducible refine Rx_rd (h_code hw) ?_ | with_reducible refine Rx_rd (h_now hw) ?_ | with_reducible refine Rx_rd (h_st hw) ?_ | with_reducible refine Rx_rd (h_tr hw) ?_ | with_reducible refine Rx_rd (h_bx hw) ?_ | with_reducible refine Rx_rd (h_ca hw) ?_ | with_reducible refine Rx_rd (h_sort hw (by first | assumption | omega)) ?_ | with_reducible refine Rx_rd (h_room hw (by first | assumption | omega)) ?_ | with_reducible refine Rx_rd (h_stops hw (by first | assumption | omega)) ?_ | with_reducible refine Rx_rd (h_sta hw (by first | assumption | omega) (by first | assumption | omega)) ?_ | with_reducible refine Rx_rd (h_min hw (by first | assumption | omega) (by first | assumption | omega)) ?_ | with_reducible refine Rx_rd (h_load hw (by first | assumption | omega) (by first | assumption | omega)) ?_ | with_reducible refine Rx_rd (h_days hw (by first | assumption | omega)) ?_ | with_reducible refine Rx_rd (h_canc hw (by first | assumption | omega)) ?_ | with_reducible refine Rx_rd (h_home hw (by first | assumption | omega)) ?_ | with_reducible refine Rx_rd (h_walk hw (by first | assumption | omega)) ?_ | with_reducible refine Rx_rd (h_ready hw (by first | assumption | omega)) ?_ | with_reducible refine Rx_rd (h_desk hw (by first | assumption | omega)) ?_ | with_reducible refine Rx_rd (h_walkT hw (by first | assumption | omega)) ?_ | with_reducible refine Rx_rd (h_due hw (by first | assumption | omega)) ?_ | with_reducible refine Rx_rd (h_rback hw (by first | assumption | omega)) ?_ | with_reducible refine Rx_rd (h_emp hw (by first | assumption | omega)) ?_ | with_reducible refine Rx_rd (h_had hw (by first | assumption | omega)) ?_ | with_reducible refine Rx_rd (h_has hw (by first | assumption | omega)) ?_ | with_reducible refine Rx_rd (h_many hw (by first | assumption | omega)) ?_ | with_reducible refine Rx_rd (h_stands hw (by first | assumption | omega)) ?_ | with_reducible refine Rx_rd (h_since hw (by first | assumption | omega) (by first | assumption | omega)) ?_ | with_reducible refine Rx_rd (h_legT hw (by first | assumption | omega) (by first | assumption | omega)) ?_ | with_reducible refine Rx_rd (h_legN hw (by first | assumption | omega) (by first | assumption | omega)) ?_ | with_reducible refine Rx_rd (h_legF hw (by first | assumption | omega) (by first | assumption | omega)) ?_ | with_reducible refine Rx_rd (h_early hw (by first | assumption | omega)) ?_ | with_reducible refine Rx_rd (h_few hw (by first | assumption | omega)) ?_ | with_reducible refine Rx_rd (h_bT hw) ?_ | with_reducible refine Rx_rd (h_bL hw) ?_ | with_reducible refine Rx_rd (h_bt hw) ?_ | with_reducible refine Rx_rd (h_bon hw) ?_ | with_reducible refine Rx_rd (h_boff hw) ?_ | with_reducible refine Rx_rd (h_gives hw (by first | assumption | omega)) ?_ | with_reducible refine Rx_rd (g_sz0 hw) ?_ | with_reducible refine Rx_rd (g_sz1 hw) ?_ | with_reducible refine Rx_rd (g_gt0 hw (by first | assumption | omega)) ?_ | with_reducible refine Rx_rd (g_gt1 hw (by first | assumption | omega)) ?_ | with_reducible refine Rx_rd (r_sortedAt hw (by first | assumption | omega) (by first | assumption | omega) (by first | assumption | omega)) ?_ | with_reducible refine Rx_rd (r_isFull hw (by first | assumption | omega) (by first | assumption | omega)) ?_ | with_reducible refine Rx_rd (r_stands hw wf (by first | assumption | omega)) ?_ | with_reducible refine Rx_rd (r_hasWay hw wf (by first | assumption | omega)) ?_ | with_reducible refine Rx_rd (r_arrivalY hw wf (by first | assumption | omega) (by first | assumption | omega)) ?_ | with_reducible refine Rx_rd (r_arrivedBy hw wf (by first | assumption | omega) (by first | assumption | omega)) ?_ | with_reducible refine Rx_rd (r_goneBy hw wf (by first | assumption | omega) (by first | assumption | omega)) ?_ | with_reducible refine Rx_rd (r_isLate hw wf (by first | assumption | omega)) ?_ | with_reducible refine Rx_rd (r_thereBy hw wf (by first | assumption | omega) (by first | assumption | omega)) ?_ | with_reducible refine Rx_rd (r_current hw (by first | assumption | omega)) ?_ | with_reducible refine Rx_rd (r_isEmpty hw (by first | assumption | omega)) ?_ | with_reducible refine Rx_rd (r_legNumber hw (by first | assumption | omega) (by first | assumption | omega)) ?_ | with_reducible refine Rx_rd (r_ledLegs hw wf (by first | assumption | omega)) ?_ | with_reducible refine Rx_rd (r_beginning hw wf (by first | assumption | omega)) ?_ | with_reducible refine Rx_rd (r_mayFollow hw wf (by first | assumption | omega) (by first | assumption | omega) (by first | assumption | omega)) ?_ | with_reducible refine Rx_rd (r_beginsAfter hw wf (by first | assumption | omega) (by first | assumption | omega)) ?_ | with_reducible refine Rx_rd (r_node hw) ?_ | with_reducible refine Rx_rd (r_legAt hw) ?_ | with_reducible refine Rx_rd (r_Mway hw wt (by first | assumption | omega)) ?_ | with_reducible refine Rx_rd (r_Mto hw wt (by first | assumption | omega)) ?_ | with_reducible refine Rx_rd (r_Mfrom hw wt (by first | assumption | omega)) ?_ | with_reducible refine Rx_rd (r_Mready hw wt (by first | assumption | omega)) ?_ | with_reducible refine Rx_rd (r_Msorted hw wt (by first | assumption | omega)) ?_ | with_reducible refine Rx_rd (r_Mbehind hw wt (by first | assumption | omega) (by first | assumption | omega) (by first | assumption | omega)) ?_ | with_reducible refine Rx_rd (r_Mthere hw wt (by first | assumption | omega)) ?_ | with_reducible refine Rx_rd (r_Mfree hw (by first | assumption | omega) (by first | assumption | omega) (by first | assumption | omega)) ?_ | with_reducible refine Rx_rd (r_Mgone hw wt (by first | assumption | omega)) ?_ | with_reducible refine Rx_rd (r_Mlate hw wt (by first | assumption | omega)) ?_))
    refine Rx_ifb (fun h => ?_) (fun h => ?_)
    · have e : cL σ (i + 1) = cL σ i := by show cL σ i + (if _ then 1 else 0) = _; rw [if_neg h]; rfl
      have := ih f' (i + 1) (by omega) (by omega)
      rw [e] at this
      exact this
    · have e : cL σ (i + 1) = cL σ i + 1 := by show cL σ i + (if _ then 1 else 0) = _; rw [if_pos h]
      have := ih f' (i + 1) (by omega) (by omega)
      rw [e] at this
      exact this
theorem L_Mcnt (wt : WF τ) (hw : Wd σ κ τ μ z w) {x1 : Int32} {kx : Int32 → Int32 → PM Int32} {Q : Int32 → PS → Prop} {E : String → PS → Prop} (hk : Rx (kx (nI (cW τ (τ 0 3 0))) (nI (cL τ (τ 0 3 0)))) w Q E) : ∀ (n f i : Nat), i + n = τ 0 3 0 → n ≤ f → Rx (p_X6_count_L12 x1 kx (f + 1) (nI (cW τ i)) (nI (cL τ i)) (nI i)) w Q E := by
  have hbx := wt.bx
  intro n
  induction n with
  | zero =>
    intro f i h1 h2
    have : i = τ 0 3 0 := by omega
    subst this
    rw [p_X6_count_L12]
    refine Rx_rd (h_bx hw) ?_
    exact Rx_pos (by rw [nI_leI (by omega) (by omega)]; omega) hk
  | succ n ih =>
    intro f i h1 h2
    obtain ⟨f', rfl⟩ : ∃ f', f = f' + 1 := ⟨f - 1, by omega⟩
    have hi : i < 60 := by omega
    have hi2 := cur_lt wt hi
    rw [p_X6_count_L12]
    refine Rx_rd (h_bx hw) ?_
    refine Rx_neg (by rw [nI_leI (by omega) (by omega)]; omega) ?_
    refine Rx_rd (g_chk7 hw) ?_
    refine Rx_assoc ?_
    refine Rx_rd (g_chk7 hw) ?_
    refine Rx_rd (r_Mway hw wt hi) ?_
    refine Rx_rd (h_has hw hi2) ?_
    have go : ∀ d : Nat, cW τ (i + 1) = cW τ i + d → Rx (p_X6_count_b41 (p_X6_count_L12 x1 kx (f' + 1)) x1 (nI (cL τ i)) (nI i) (nI d) (nI (cW τ i))) w Q E := by
      intro d hd
      have := ih f' (i + 1) (by omega) (by omega)
      unfold p_X6_count_b41 p_X6_count_b58
      refine Rx_assoc ?_
      refine Rx_rd (g_chk7 hw) ?_
      refine Rx_rd (r_Mlate hw wt hi) ?_
      refine Rx_ifb (fun h => ?_) (fun h => ?_)
      · have e : cL τ (i + 1) = cL τ i + 0 := by show cL τ i + (if _ then 1 else 0) = _; rw [if_neg h]
        rw [nL_0, nI_add, nI_add, nI_1, ← e, ← hd]
        exact this
      · have e : cL τ (i + 1) = cL τ i + 1 := by show cL τ i + (if _ then 1 else 0) = _; rw [if_pos h]
        rw [nL_1, nI_add, nI_add, nI_add, ← e, ← hd]
        exact this
    by_cases h5 : τ 9 (cur τ i) 5 = 0
    · rw [if_pos h5]
      exact Rx_pos rfl (go 0 (by show cW τ i + (if _ then 1 else 0) = _; rw [if_neg (fun q => q h5)]))
    · rw [if_neg h5]
      exact Rx_neg (by decide) (go 1 (by show cW τ i + (if _ then 1 else 0) = _; rw [if_pos h5]))
theorem op_count (hv : INV3 σ) (y : Int32) : Op (p_X5_count y) (p_X6_count y) cf1 sN σ := by
  have wf := hv.1.1
  have hbx := wf.bx
  have rfr : ∀ (r : RS) (p : Int32 → Int32 → PM Int32), (∀ σc κ μ z w, HM μ → μ 5 0 0 = 0 → Wd σc κ σ μ z w → Rx (p (nI (cW σ (σ 0 3 0))) (nI (cL σ (σ 0 3 0)))) w (fun v w' => ∃ μ', Wd σc κ σ μ' z w' ∧ HM μ' ∧ (match r with | .inl a => v = a ∧ μ' 5 0 0 = 0 | .inr e => μ' 5 0 0 = cf1 e)) NE) → Rfr (pbnd (ppI 7 0 0 (0 : Int32)) fun _ => p_X6_count_L12 y p FU (0 : Int32) (0 : Int32) (0 : Int32)) cf1 σ σ r := by
    intro r p h σc κ μ z w hm hw
    rw [nL_0]
    refine Rx_set (t_code hw) (fun w1 hw1 => ?_)
    exact L_Mcnt (f := 4095) wf hw1 (h σc κ _ z w1 (hm.code 0) us_code hw1) (σ 0 3 0) 0 (by omega) (by omega)
  unfold p_X5_count p_X6_count
  by_cases y0 : y = 0
  · refine ⟨.inl (nI (σ 0 1 0)), trivial, σ, hv, fun κ τ μ z w hw => ?_, rfr _ _ (fun σc κ μ z w hm h5 hw => ?_)⟩
    · exact Rx_pos y0 (Rx_rd (g_chk6 hw) (Rx_rd (g_st hw) (Rx_rt ⟨rfl, κ, hw⟩)))
    · exact Rx_pos y0 (Rx_rd (h_st hw) (Rx_rt ⟨μ, hw, hm, rfl, h5⟩))
  by_cases y1 : y = 1
  · refine ⟨.inl (nI (σ 0 2 0)), trivial, σ, hv, fun κ τ μ z w hw => ?_, rfr _ _ (fun σc κ μ z w hm h5 hw => ?_)⟩
    · exact Rx_neg y0 (Rx_pos y1 (Rx_rd (g_chk6 hw) (Rx_rd (g_chk3 hw) (Rx_rd (g_siz0 hw) (Rx_rt ⟨rfl, κ, hw⟩)))))
    · exact Rx_neg y0 (Rx_pos y1 (Rx_rd (h_tr hw) (Rx_rt ⟨μ, hw, hm, rfl, h5⟩)))
  by_cases y2 : y = 2
  · refine ⟨.inl (nI (σ 0 3 0)), trivial, σ, hv, fun κ τ μ z w hw => ?_, rfr _ _ (fun σc κ μ z w hm h5 hw => ?_)⟩
    · exact Rx_neg y0 (Rx_neg y1 (Rx_pos y2 (Rx_rd (g_chk6 hw) (Rx_rd (g_siz1 hw) (Rx_rt ⟨rfl, κ, hw⟩)))))
    · exact Rx_neg y0 (Rx_neg y1 (Rx_pos y2 (Rx_rd (h_bx hw) (Rx_rt ⟨μ, hw, hm, rfl, h5⟩))))
  by_cases y3 : y = 3
  · refine ⟨.inl (nI (σ 0 0 0)), trivial, σ, hv, fun κ τ μ z w hw => ?_, rfr _ _ (fun σc κ μ z w hm h5 hw => ?_)⟩
    · exact Rx_neg y0 (Rx_neg y1 (Rx_neg y2 (Rx_pos y3 (Rx_rd (g_now hw) (Rx_rt ⟨rfl, κ, hw⟩)))))
    · exact Rx_neg y0 (Rx_neg y1 (Rx_neg y2 (Rx_pos y3 (Rx_rd (h_now hw) (Rx_rt ⟨μ, hw, hm, rfl, h5⟩)))))
  by_cases y4 : y = 4
  · refine ⟨.inl (nI (cW σ (σ 0 3 0))), trivial, σ, hv, fun κ τ μ z w hw => ?_, rfr _ _ (fun σc κ μ z w hm h5 hw => ?_)⟩
    · refine Rx_neg y0 (Rx_neg y1 (Rx_neg y2 (Rx_neg y3 (Rx_pos y4 ?_))))
      refine Rx_assoc ?_
      refine Rx_rd (g_chk6 hw) ?_
      refine Rx_rd (Rx_un (L_cW (f := 4095) wf hw (σ 0 3 0) 0 (by omega) (by omega))) ?_
      exact Rx_rt ⟨rfl, κ, hw⟩
    · exact Rx_neg y0 (Rx_neg y1 (Rx_neg y2 (Rx_neg y3 (Rx_pos y4 (Rx_rt ⟨μ, hw, hm, rfl, h5⟩)))))
  by_cases y5 : y = 5
  · refine ⟨.inl (nI (cL σ (σ 0 3 0))), trivial, σ, hv, fun κ τ μ z w hw => ?_, rfr _ _ (fun σc κ μ z w hm h5 hw => ?_)⟩
    · refine Rx_neg y0 (Rx_neg y1 (Rx_neg y2 (Rx_neg y3 (Rx_neg y4 (Rx_pos y5 ?_)))))
      refine Rx_assoc ?_
      refine Rx_rd (g_chk6 hw) ?_
      refine Rx_rd (Rx_un (L_cL (f := 4095) wf hw (σ 0 3 0) 0 (by omega) (by omega))) ?_
      exact Rx_rt ⟨rfl, κ, hw⟩
    · exact Rx_neg y0 (Rx_neg y1 (Rx_neg y2 (Rx_neg y3 (Rx_neg y4 (Rx_pos y5 (Rx_rt ⟨μ, hw, hm, rfl, h5⟩))))))
  by_cases y6 : y = 6
  · refine ⟨.inl (nI (mkN σ (σ 0 3 0))), trivial, σ, hv, fun κ τ μ z w hw => ?_, rfr _ _ (fun σc κ μ z w hm h5 hw => ?_)⟩
    · refine Rx_neg y0 (Rx_neg y1 (Rx_neg y2 (Rx_neg y3 (Rx_neg y4 (Rx_neg y5 (Rx_pos y6 ?_))))))
      refine Rx_assoc ?_
      refine Rx_rd (g_chk6 hw) ?_
      exact Rx_cn (R_nm wf hw) (fun v w1 ⟨κ1, e, hw1, _⟩ => Rx_rt ⟨by rw [e], κ1, hw1⟩)
    · refine Rx_neg y0 (Rx_neg y1 (Rx_neg y2 (Rx_neg y3 (Rx_neg y4 (Rx_neg y5 (Rx_pos y6 ?_))))))
      exact Rx_rd (h_bx hw) (Rx_assoc (Rx_rd (g_chk7 hw) (Rx_rd (q_Mmu wf hw (by omega)) (Rx_rt ⟨μ, hw, hm, rfl, h5⟩))))
  by_cases y7 : y = 7
  · refine ⟨.inl (nI (σ 0 4 0)), trivial, σ, hv, fun κ τ μ z w hw => ?_, rfr _ _ (fun σc κ μ z w hm h5 hw => ?_)⟩
    · exact Rx_neg y0 (Rx_neg y1 (Rx_neg y2 (Rx_neg y3 (Rx_neg y4 (Rx_neg y5 (Rx_neg y6 (Rx_pos y7 (Rx_rd (g_chk6 hw) (Rx_rd (g_ca hw) (Rx_rt ⟨rfl, κ, hw⟩))))))))))
    · exact Rx_neg y0 (Rx_neg y1 (Rx_neg y2 (Rx_neg y3 (Rx_neg y4 (Rx_neg y5 (Rx_neg y6 (Rx_pos y7 (Rx_rd (h_ca hw) (Rx_rt ⟨μ, hw, hm, rfl, h5⟩)))))))))
  · refine ⟨.inr eN, rfl, σ, hv, fun κ τ μ z w hw => ?_, rfr _ _ (fun σc κ μ z w hm h5 hw => ?_)⟩
    · exact Rx_neg y0 (Rx_neg y1 (Rx_neg y2 (Rx_neg y3 (Rx_neg y4 (Rx_neg y5 (Rx_neg y6 (Rx_neg y7 (Rx_thr ⟨rfl, κ, hw.thr⟩))))))))
    · exact Rx_neg y0 (Rx_neg y1 (Rx_neg y2 (Rx_neg y3 (Rx_neg y4 (Rx_neg y5 (Rx_neg y6 (Rx_neg y7 (Rx_failp hm hw))))))))
end CNT
