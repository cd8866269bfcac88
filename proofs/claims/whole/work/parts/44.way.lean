/-! ways, over numbers alone: what is reached by how many legs and when, the best, its first legs -/
def freeS (σ : SG) (t k : Nat) : Prop := σ 4 t 0 = 0 ∧ dL (σ 7 t k) < nI (σ 2 t 0)
def Leg (σ : SG) (t on off : Nat) : Prop := t < σ 0 2 0 ∧ on < off ∧ off < σ 3 t 0 ∧ ∀ j, on ≤ j → j < off → freeS σ t j
def reach (σ : SG) (to : Nat) : Nat → Nat → Nat → Nat → Prop
  | 0, s, m, a => s = to ∧ a = m
  | j + 1, s, m, a => ∃ t on off, Leg σ t on off ∧ σ 5 t on = s ∧ m ≤ σ 6 t on ∧ reach σ to j (σ 5 t off) (srt σ t off) a
def isBest (σ : SG) (to l s m T N : Nat) : Prop := N ≤ l ∧ reach σ to N s m T ∧ ∀ j a, j ≤ l → reach σ to j s m a → T < a ∨ (T = a ∧ N ≤ j)
noncomputable def bestS (σ : SG) (to l s m : Nat) : Option (Nat × Nat) := @dite _ (∃ x : Nat × Nat, isBest σ to l s m x.1 x.2) (Classical.propDecidable _) (fun h => some h.choose) (fun _ => none)
abbrev LG : Type := Nat × Nat × Nat
def lexlt (x y : LG) : Prop := x.1 < y.1 ∨ (x.1 = y.1 ∧ (x.2.1 < y.2.1 ∨ (x.2.1 = y.2.1 ∧ x.2.2 < y.2.2)))
def isFst (P : LG → Prop) (x : LG) : Prop := P x ∧ ∀ y, lexlt y x → ¬ P y
noncomputable def firstL (P : LG → Prop) : Option LG := @dite _ (∃ x, isFst P x) (Classical.propDecidable _) (fun h => some h.choose) (fun _ => none)
theorem isFst_uniq {P : LG → Prop} {x y : LG} (hx : isFst P x) (hy : isFst P y) : x = y := by
  have h1 : ¬ lexlt x y := fun h => hy.2 x h hx.1
  have h2 : ¬ lexlt y x := fun h => hx.2 y h hy.1
  obtain ⟨a, b, c⟩ := x
  obtain ⟨d, e, f⟩ := y
  unfold lexlt at h1 h2
  simp only at h1 h2
  have : a = d ∧ b = e ∧ c = f := by omega
  obtain ⟨rfl, rfl, rfl⟩ := this
  rfl
theorem firstL_eq {P : LG → Prop} {x : LG} (h : isFst P x) : firstL P = some x := by
  have h1 : ∃ x, isFst P x := ⟨x, h⟩
  unfold firstL
  rw [dif_pos h1]
  exact congrArg some (isFst_uniq h1.choose_spec h)
theorem isBest_uniq {σ : SG} {to l s m T N T' N' : Nat} (h : isBest σ to l s m T N) (h' : isBest σ to l s m T' N') : T = T' ∧ N = N' := by
  have a1 := h.2.2 N' T' h'.1 h'.2.1
  have a2 := h'.2.2 N T h.1 h.2.1
  omega
theorem bestS_eq {σ : SG} {to l s m T N : Nat} (h : isBest σ to l s m T N) : bestS σ to l s m = some (T, N) := by
  have h1 : ∃ x : Nat × Nat, isBest σ to l s m x.1 x.2 := ⟨(T, N), h⟩
  unfold bestS
  rw [dif_pos h1]
  have := isBest_uniq h1.choose_spec h
  exact congrArg some (Prod.ext this.1 this.2)
theorem bestS_none {σ : SG} {to l s m : Nat} (h : ∀ j a, j ≤ l → ¬ reach σ to j s m a) : bestS σ to l s m = none := by
  unfold bestS
  exact dif_neg (fun ⟨x, hx⟩ => h x.2 x.1 hx.1 hx.2.1)
/-- the leg may be the next, if j legs more must be at the end by T -/
def OkL (σ : SG) (to T j s m : Nat) (x : LG) : Prop := Leg σ x.1 x.2.1 x.2.2 ∧ σ 5 x.1 x.2.1 = s ∧ m ≤ σ 6 x.1 x.2.1 ∧ ∃ a, a ≤ T ∧ reach σ to j (σ 5 x.1 x.2.2) (srt σ x.1 x.2.2) a
noncomputable def legsS (σ : SG) (to T : Nat) : Nat → Nat → Nat → List LG
  | 0, _, _ => []
  | j + 1, s, m => match firstL (OkL σ to T j s m) with
    | none => []
    | some x => x :: legsS σ to T j (σ 5 x.1 x.2.2) (srt σ x.1 x.2.2)
def lodS (σ : SG) (t on off : Nat) (d : Int32) : SG := fun x y z => if x = 7 ∧ y = t ∧ on ≤ z ∧ z < off then eL (dL (σ x y z) + d) else σ x y z
def lgS (σ : SG) (w : Nat) (x : LG) : SG := us (us (us (us σ 10 w (3 * σ 9 w 2) x.1) 10 w (3 * σ 9 w 2 + 1) x.2.1) 10 w (3 * σ 9 w 2 + 2) x.2.2) 9 w 2 (σ 9 w 2 + 1)
def addAll (σ : SG) (w : Nat) : List LG → SG
  | [] => σ
  | x :: l => addAll (lgS (lodS σ x.1 x.2.1 x.2.2 1) w x) w l
def endS (σ : SG) (w T : Nat) : SG := us (us (us (us σ 9 w 0 1) 9 w 5 (T + 1)) 9 w 3 0) 9 w 4 0
noncomputable def leadF (σ : SG) (w s m : Nat) : Option SG := match bestS σ (toS σ w) (3 - σ 9 w 2) s m with
  | none => none
  | some (T, N) => some (endS (addAll σ w (legsS σ (toS σ w) T N s m)) w T)
def WI (σ : SG) : Prop := ∀ t k l, k < l → l < σ 3 t 0 → σ 6 t k < σ 6 t l
section WAY
variable {σ : SG}
theorem srt_ge (t k : Nat) : σ 6 t k ≤ srt σ t k := by unfold srt; omega
theorem Leg.lt (wf : WI σ) {t on off : Nat} (h : Leg σ t on off) : σ 6 t on < σ 6 t off := wf t on off h.2.1 h.2.2.1
theorem reach_ge (wf : WI σ) {to : Nat} : ∀ {j s m a : Nat}, reach σ to j s m a → m ≤ a
  | 0, s, m, a, h => by have := h.2; omega
  | j + 1, s, m, a, ⟨t, on, off, hl, _, hm, hr⟩ => by
    have h1 := reach_ge wf hr
    have h2 := srt_ge (σ := σ) t off
    have h3 := hl.lt wf
    omega
theorem reach_gt (wf : WI σ) {to : Nat} {j s m a : Nat} : reach σ to (j + 1) s m a → m < a
  | ⟨t, on, off, hl, _, hm, hr⟩ => by
    have h1 := reach_ge wf hr
    have h2 := srt_ge (σ := σ) t off
    have h3 := hl.lt wf
    omega
/-- earlier at the station, no later at the end -/
theorem reach_mono {to : Nat} {j s m m' a : Nat} (h : reach σ to j s m' a) (hm : m ≤ m') : ∃ a', a' ≤ a ∧ reach σ to j s m a' := by
  cases j with
  | zero => exact ⟨m, by have := h.2; omega, h.1, rfl⟩
  | succ j =>
    obtain ⟨t, on, off, hl, h1, h2, h3⟩ := h
    exact ⟨a, Nat.le_refl _, t, on, off, hl, h1, by omega, h3⟩
theorem reach_bound (wf : WF σ) {to : Nat} : ∀ {j s m a : Nat}, reach σ to (j + 1) s m a → a ≤ 1499
  | 0, s, m, a, ⟨t, on, off, hl, _, hm, hr⟩ => by
    have := wf.srtb t off
    have := hr.2
    omega
  | j + 1, s, m, a, ⟨t, on, off, hl, _, hm, hr⟩ => reach_bound wf hr
/-- the last leg, instead of the first -/
theorem reach_snoc {x : Nat} : ∀ {j s m a : Nat}, reach σ x (j + 1) s m a ↔ ∃ t on off a', Leg σ t on off ∧ reach σ (σ 5 t on) j s m a' ∧ a' ≤ σ 6 t on ∧ σ 5 t off = x ∧ a = srt σ t off
  | 0, s, m, a => by
    constructor
    · rintro ⟨t, on, off, hl, h1, h2, h3, h4⟩
      exact ⟨t, on, off, m, hl, ⟨h1.symm, rfl⟩, h2, h3, h4⟩
    · rintro ⟨t, on, off, a', hl, ⟨h1, h2⟩, h3, h4, h5⟩
      exact ⟨t, on, off, hl, h1.symm, by omega, h4, h5⟩
  | j + 1, s, m, a => by
    constructor
    · rintro ⟨t, on, off, hl, h1, h2, h3⟩
      obtain ⟨t', on', off', a', hl', g1, g2, g3, g4⟩ := reach_snoc.mp h3
      exact ⟨t', on', off', a', hl', ⟨t, on, off, hl, h1, h2, g1⟩, g2, g3, g4⟩
    · rintro ⟨t', on', off', a', hl', ⟨t, on, off, hl, h1, h2, g1⟩, g2, g3, g4⟩
      exact ⟨t, on, off, hl, h1, h2, reach_snoc.mpr ⟨t', on', off', a', hl', g1, g2, g3, g4⟩⟩
theorem best_zero (wf : WI σ) {to l s m : Nat} (h : s = to) : isBest σ to l s m m 0 := by
  refine ⟨Nat.zero_le _, ⟨h, rfl⟩, fun j a _ hr => ?_⟩
  have := reach_ge wf hr
  omega
theorem best_pos {to l s m T N : Nat} (h : isBest σ to l s m T N) (hs : s ≠ to) : 0 < N := by
  rcases Nat.eq_zero_or_pos N with q | q
  · subst q; exact absurd h.2.1.1 hs
  · exact q
/-- behind the best way's first leg lies a best way -/
theorem best_next (wf : WF σ) {to l s m T N : Nat} (h : isBest σ to (l + 1) s m T (N + 1)) {t on off : Nat} (hx : OkL σ to T N s m (t, on, off)) : isBest σ to l (σ 5 t off) (srt σ t off) T N := by
  obtain ⟨hl, h1, h2, a, ha, hr⟩ := hx
  have h1 : σ 5 t on = s := h1
  have h2 : m ≤ σ 6 t on := h2
  have hr : reach σ to N (σ 5 t off) (srt σ t off) a := hr
  have e := h.2.2 (N + 1) a (by have := h.1; omega) ⟨t, on, off, hl, h1, h2, hr⟩
  have e2 : a = T := by omega
  subst e2
  refine ⟨by have := h.1; omega, hr, fun j a' hj hr' => ?_⟩
  have e3 := h.2.2 (j + 1) a' (by omega) ⟨t, on, off, hl, h1, h2, hr'⟩
  omega
end WAY
