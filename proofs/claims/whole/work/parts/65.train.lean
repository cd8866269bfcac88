/-! train: an object is made -/
def ClsH (f : Nat → Nat → Nat → Mo Int32) (σ σ' : SG) (r : RS) : Prop := ∀ (y : LY) (mi : Nat) (κ τ μ : SG) (z : BB) (w : PS) (h : AH), Wd σ κ τ μ z w → Rep y w h → yC y 0 ≤ 100 → yC y 1 ≤ 100 → ∃ (y' : LY) (κ' : SG) (z' : BB) (w' : PS) (h' : AH), f (yt0 y) mi (adO y 6 0) h = some (r, h') ∧ (yB y' = yB y ∧ yt0 y' = yt0 y ∧ yC y' 0 ≤ 100 ∧ yC y' 1 ≤ 100) ∧ Wd σ' κ' τ μ z' w' ∧ Rep y' w' h' ∧ z'.1 ≤ z.1 + 6 ∧ z'.2.1 ≤ z.2.1 + 200 ∧ z'.2.2 = z.2.2
def RfrH (f : Nat → Nat → Nat → Mo Int32) (cf : String → Nat) (σ σ' : SG) (r : RS) : Prop := ∀ (y : LY) (mi : Nat) (σc κ μ : SG) (z : BB) (w : PS) (h : AH), HM μ → Wd σc κ σ μ z w → Rep y w h → ∃ (v : Int32) (μ' : SG) (w' : PS) (h' : AH), f (yt0 y) mi (adO y 7 0) h = some (.inl v, h') ∧ Rep y w' h' ∧ Wd σc κ σ' μ' z w' ∧ HM μ' ∧ (match r with | .inl a => v = a ∧ μ' 5 0 0 = 0 | .inr e => μ' 5 0 0 = cf e)
def OpH (fc fm : Nat → Nat → Nat → Mo Int32) (cf : String → Nat) (S : String → Prop) (σ : SG) : Prop := ∃ r, okR S r ∧ ∃ σ', INV3 σ' ∧ ClsH fc σ σ' r ∧ RfrH fm cf σ σ' r
def Op1H (fc fm : Nat → Nat → Nat → Mo Int32) (σ : SG) : Prop := ∃ (v : Int32) (σ' : SG), INV3 σ' ∧ ClsH fc σ σ' (.inl v) ∧ RfrH fm cf1 σ σ' (.inl v)
theorem ClsH.of {f : Nat → Nat → Nat → Mo Int32} {p : PM Int32} {σ σ' : SG} {r : RS} (hl : ∀ (y : LY) (t0 mi : Nat), Lft y Eq (f t0 mi (adO y 6 0)) p) (h : Cls p σ σ' r) : ClsH f σ σ' r := by
  intro y mi κ τ μ z w h0 hw hr c0 c1
  obtain ⟨x, w', e, hx⟩ := h κ τ μ z w hw
  obtain ⟨x2, h', e1, e2, e3⟩ := hl y (yt0 y) mi w h0 hr x w' e
  cases x with
  | inl a =>
    cases x2 with
    | inr _ => cases e2
    | inl b =>
      have e2 : b = a := e2
      subst e2
      obtain ⟨q1, κ', q2⟩ := hx
      exact ⟨y, κ', z, w', h', by rw [e1, q1], ⟨rfl, rfl, c0, c1⟩, q2, e3, by omega, by omega, rfl⟩
  | inr a =>
    cases x2 with
    | inl _ => cases e2
    | inr b =>
      have e2 : b = a := e2
      subst e2
      obtain ⟨q1, κ', q2⟩ := hx
      exact ⟨y, κ', _, w', h', by rw [e1, q1], ⟨rfl, rfl, c0, c1⟩, q2, e3, by show z.1 + 1 ≤ _; omega, by show z.2.1 + 6 ≤ _; omega, rfl⟩
theorem RfrH.of {f : Nat → Nat → Nat → Mo Int32} {p : PM Int32} {cf : String → Nat} {σ σ' : SG} {r : RS} (hl : ∀ (y : LY) (t0 mi : Nat), Lft y Eq (f t0 mi (adO y 7 0)) p) (h : Rfr p cf σ σ' r) : RfrH f cf σ σ' r := by
  intro y mi σc κ μ z w h0 hm hw hr
  obtain ⟨x, w', e, hx⟩ := h σc κ μ z w hm hw
  obtain ⟨x2, h', e1, e2, e3⟩ := hl y (yt0 y) mi w h0 hr x w' e
  cases x with
  | inr a => exact hx.elim
  | inl a =>
    cases x2 with
    | inr _ => cases e2
    | inl b =>
      have e2 : b = a := e2
      subst e2
      obtain ⟨μ', q1, q2, q3⟩ := hx
      exact ⟨b, μ', w', h', e1, e3, q1, q2, q3⟩
theorem val_c {F : F3} {c i : Nat} (h : val F c i = true) : (c = 0 ∧ i < 2) ∨ (c = 1 ∧ i < nB F) ∨ (c = 2 ∧ i = 0) ∨ (c = 3 ∧ i = 0) ∨ (c = 4 ∧ i < nT F) ∨ (c = 5 ∧ i / 2 < nB F ∧ (i % 2 = 0 ∨ F 1 (i / 2) 1 ≠ 0)) ∨ (c = 6 ∧ i = 0) ∨ (c = 7 ∧ i = 0) := by
  unfold val at h
  split at h <;> simp at h <;> simp [h]
theorem valA_c {F : F3} {k i : Nat} (h : valA F k i = true) : (k = 0 ∧ i = 0) ∨ (k = 1 ∧ i = 0) ∨ (k = 2 ∧ i = 0) ∨ (k = 3 ∧ i < 4) ∨ (k = 4 ∧ i < 3) ∨ ((k = 5 ∨ k = 6 ∨ k = 7) ∧ i < nT F) ∨ (k = 8 ∧ i / 2 < nB F ∧ (i % 2 = 0 ∨ F 1 (i / 2) 1 ≠ 0)) ∨ (k = 9 ∧ ((6 ≤ i ∧ i < 32) ∨ i = 37)) := by
  unfold valA at h
  split at h <;> simp [val] at h <;> simp [h]
section TRAIN
variable {σ κ τ μ : SG} {z : BB} {w : PS}
def trS (σ : SG) (v : Nat) : SG := us (us σ 2 (σ 0 2 0) 0 v) 0 2 0 (σ 0 2 0 + 1)
def yTr (y : LY) (n a e c : Nat) : LY := (yB y, yt0 y, (fun i => if i = n then a else yT y i), yX y, yK y, (fun j => if j = 0 then e else yE y j), (fun j => if j = 0 then c else yC y j), fun x => if x < a then yR y x else if x = a then (0, 4, n) else if x = a + 1 then (1, 5, n) else if x = a + 2 then (1, 6, n) else if x = a + 3 then (1, 7, n) else (2, 2, 0))
def FTr (F : F3) (n : Nat) (r : Int32) : F3 := u3 (u3 (u3 F 0 0 2 (nI (n + 1))) 0 0 0 (F 0 0 0 + 1)) 4 n 0 r
theorem INV3_tr (hv : INV3 σ) {v : Nat} (hn : σ 0 2 0 < 16) (hb : v ≤ 40) : INV3 (trS σ v) := by
  have wf := hv.1.1
  have k : ∀ x y q, x ≠ 0 → x ≠ 2 → trS σ v x y q = σ x y q := fun x y q h0 h1 => by unfold trS; rw [us_ne h0, us_ne h1]
  have k0 : ∀ y, y ≠ 2 → trS σ v 0 y 0 = σ 0 y 0 := fun y hy => by unfold trS; rw [us_at, if_neg (fun e => hy e.2.1), us_ne (by decide)]
  have k02 : trS σ v 0 2 0 = σ 0 2 0 + 1 := us_self
  have k2 : ∀ i, trS σ v 2 i 0 = if i = σ 0 2 0 then v else σ 2 i 0 := fun i => by
    unfold trS
    rw [us_ne (by decide), us_at]
    by_cases q : i = σ 0 2 0
    · rw [if_pos ⟨rfl, q, rfl⟩, if_pos q]
    · rw [if_neg (fun e => q e.2.1), if_neg q]
  have ks : ∀ t j, srt (trS σ v) t j = srt σ t j := fun t j => by
    unfold srt
    rw [k 6 _ _ (by decide) (by decide), k 5 _ _ (by decide) (by decide), k 1 _ _ (by decide) (by decide)]
  have hold : ∀ t j, j < σ 3 t 0 → trS σ v 5 t j = σ 5 t j ∧ trS σ v 6 t j = σ 6 t j ∧ srt (trS σ v) t j = srt σ t j := fun t j hj => ⟨k 5 _ _ (by decide) (by decide), k 6 _ _ (by decide) (by decide), ks t j⟩
  refine ⟨⟨WF_net wf (fun y q => k 7 y q (by decide) (by decide)) (fun y q => k 8 y q (by decide) (by decide)) (fun y q => k 9 y q (by decide) (by decide)) (fun y q => k 10 y q (by decide) (by decide)) (by rw [k0 0 (by decide)]; exact wf.now) (by rw [k0 1 (by decide)]; exact wf.st) (by rw [k02]; omega) (k0 3 (by decide)) (by rw [k0 4 (by decide)]; exact wf.ca) (fun i => by rw [k 1 _ _ (by decide) (by decide)]; exact wf.sort i) (fun t => by rw [k2]; have := wf.room t; split <;> omega) (fun t => by rw [k 3 _ _ (by decide) (by decide)]; exact ⟨Nat.le_refl _, wf.stops t⟩) (fun t => by rw [k 4 _ _ (by decide) (by decide)]; exact wf.canc t) (fun t j => by rw [k 5 _ _ (by decide) (by decide)]; exact wf.sta t j) (fun t j => by rw [k 6 _ _ (by decide) (by decide)]; exact wf.min t j) (fun t a b => by rw [k 3 _ _ (by decide) (by decide), k 6 _ _ (by decide) (by decide), k 6 _ _ (by decide) (by decide)]; exact wf.inc t a b) hold (fun y hy => ?_) (fun i => by rw [k 11 _ _ (by decide) (by decide)]; exact wf.days i) (fun t ht => ?_), SN_net wf hv.1.2 (fun y q => k 8 y q (by decide) (by decide)) (fun y q => k 9 y q (by decide) (by decide)) (fun y q => k 10 y q (by decide) (by decide)) (k0 3 (by decide)) hold⟩, ?_⟩
  · have e8 : ∀ b q, trS σ v 8 b q = σ 8 b q := fun b q => k 8 b q (by decide) (by decide)
    have e1 : ∀ b q, trS σ v 1 b q = σ 1 b q := fun b q => k 1 b q (by decide) (by decide)
    unfold begS readyS wfromS fromS
    simp only [e8, e1]
  · rw [k02] at ht
    have f := wf.freshT t (by omega)
    rw [k 3 _ _ (by decide) (by decide), k 4 _ _ (by decide) (by decide), k2, if_neg (by omega)]
    refine ⟨f.1, f.2.1, f.2.2.1, fun j => ?_⟩
    rw [k 5 _ _ (by decide) (by decide), k 6 _ _ (by decide) (by decide), k 7 _ _ (by decide) (by decide)]
    exact f.2.2.2 j
  · refine ⟨fun t j hj => ?_, fun b hb => ?_⟩
    · rw [k 3 _ _ (by decide) (by decide)] at hj
      rw [k 5 _ _ (by decide) (by decide), k0 1 (by decide)]
      exact hv.2.1 t j hj
    · rw [k0 3 (by decide)] at hb
      rw [k 8 _ _ (by decide) (by decide), k 8 _ _ (by decide) (by decide), k0 1 (by decide)]
      exact hv.2.2 b hb
theorem CR_tr {F A : F3} {v : Nat} (h : CR σ κ F A) (hn : σ 0 2 0 < 16) : CR (trS σ v) κ (FTr F (σ 0 2 0) (nI v)) A := by
  unfold trS FTr
  obtain ⟨q0, q1, q2, q3, q4, q5, q6, q7, q8, q9, q10, q11, q12, q13, q14, q15, q16, q17, q18, q19, q20, q21, q22, q23, q24, q25, q26, q27, q28, q29, q30⟩ := h
  refine ⟨⟨by rw [us_self]; omega, by simpa [us] using q0.2.1, by simpa [us] using q0.2.2⟩, by simpa [u3, us] using q1, by simp [u3, us], by simpa [u3, us] using q3, by simpa [u3, us] using q4, by simpa [u3, us] using q5, by simpa [u3, us] using q6, fun t => ?_, by simpa [u3, us] using q8, by simpa [u3, us] using q9, by simpa [u3, us] using q10, by simpa [u3, us] using q11, by simpa [u3, us] using q12, by simpa [u3, us] using q13, by simpa [u3, us, fromS] using q14, by simpa [u3, us, wfromS] using q15, by simpa [u3, us, readyS] using q16, by simpa [u3, us, toS] using q17, by simpa [u3, us, wtoS] using q18, by simpa [u3, us, dueS] using q19, by simpa [u3, us] using q20, by simpa [u3, us] using q21, by simpa [u3, us] using q22, by simpa [u3, us] using q23, by simpa [u3, us] using q24, by simpa [u3, us] using q25, by simpa [u3, us] using q26, by simpa [u3, us] using q27, by simpa [u3, us] using q28, by simpa [u3, us] using q29, by simpa [u3, us] using q30⟩
  by_cases q : t = σ 0 2 0
  · simp [u3, us, q]
  · simpa [u3, us, q] using q7 t
end TRAIN
