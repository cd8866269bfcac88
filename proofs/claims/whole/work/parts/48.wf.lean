/-! what holds of every day goes on to hold when legs are given up, taken, or a box stands -/
/-- a box that stands: where its legs end, not at its own end -/
def SNw (σ : SG) (w : Nat) : Prop := σ 9 w 3 ≠ 0 → w / 2 < σ 0 3 0 → σ 9 w 3 ≠ toS σ w + 1 ∧ σ 9 w 5 = 0 ∧ (0 < σ 9 w 2 → σ 9 w 3 = σ 5 (σ 10 w (3 * (σ 9 w 2 - 1))) (σ 10 w (3 * (σ 9 w 2 - 1) + 2)) + 1 ∧ srt σ (σ 10 w (3 * (σ 9 w 2 - 1))) (σ 10 w (3 * (σ 9 w 2 - 1) + 2)) ≤ σ 9 w 4) ∧ (σ 9 w 2 = 0 → σ 9 w 3 = fromS σ w + 1)
def HN (σ : SG) : Prop := ∀ w, σ 9 w 0 = 0 → σ 9 w 2 = 0 ∧ σ 9 w 5 = 0
def SN (σ : SG) : Prop := (∀ w, SNw σ w) ∧ HN σ
def SameX (i : Nat) (σ' σ : SG) : Prop := ∀ x y q, x ≠ 7 → ¬ ((x = 9 ∨ x = 10) ∧ y = i) → σ' x y q = σ x y q
section WFU
variable {σ σ' : SG} {i : Nat}
theorem SameX.k (h : SameX i σ' σ) {x : Nat} (y q : Nat) (h7 : x ≠ 7) (h9 : x ≠ 9) (h10 : x ≠ 10) : σ' x y q = σ x y q := h x y q h7 (fun e => by omega)
theorem SameX.sr (h : SameX i σ' σ) (t k : Nat) : srt σ' t k = srt σ t k := by
  unfold srt
  rw [h.k (x := 6) _ _ (by decide) (by decide) (by decide), h.k (x := 5) _ _ (by decide) (by decide) (by decide), h.k (x := 1) _ _ (by decide) (by decide) (by decide)]
theorem SameX.way (h : SameX i σ' σ) (w : Nat) : fromS σ' w = fromS σ w ∧ wfromS σ' w = wfromS σ w ∧ readyS σ' w = readyS σ w ∧ toS σ' w = toS σ w ∧ wtoS σ' w = wtoS σ w ∧ dueS σ' w = dueS σ w ∧ begS σ' w = begS σ w := by
  have e : ∀ b q, σ' 8 b q = σ 8 b q := fun b q => h.k (x := 8) _ _ (by decide) (by decide) (by decide)
  have e1 : ∀ b q, σ' 1 b q = σ 1 b q := fun b q => h.k (x := 1) _ _ (by decide) (by decide) (by decide)
  unfold begS fromS wfromS readyS toS wtoS dueS
  simp only [e, e1]
  exact ⟨trivial, trivial, trivial, trivial, trivial, trivial, trivial⟩
/-- only one way and the loads have changed -/
theorem WF_upd (wf : WF σ) (h : SameX i σ' σ) (hi : okW σ i)
    (hl : ∀ t k, σ 3 t 0 ≤ k → dL (σ' 7 t k) = 0)
    (hw : σ' 9 i 0 ≤ 1 ∧ σ' 9 i 2 ≤ 3 ∧ σ' 9 i 3 ≤ 10 ∧ σ' 9 i 4 ≤ 3000 ∧ σ' 9 i 5 ≤ 3001)
    (hleg : ∀ j, j < σ' 9 i 2 → σ' 10 i (3 * j) < σ 0 2 0 ∧ σ' 10 i (3 * j + 1) < σ' 10 i (3 * j + 2) ∧ σ' 10 i (3 * j + 2) < σ 3 (σ' 10 i (3 * j)) 0)
    (hlb : ∀ j, σ' 10 i j ≤ 16)
    (hch : ∀ j, j + 1 < σ' 9 i 2 → srt σ (σ' 10 i (3 * j)) (σ' 10 i (3 * j + 2)) ≤ σ 6 (σ' 10 i (3 * (j + 1))) (σ' 10 i (3 * (j + 1) + 1)) ∧ σ 5 (σ' 10 i (3 * j)) (σ' 10 i (3 * j + 2)) ≠ toS σ i)
    (hft : 0 < σ' 9 i 2 → fromS σ i ≠ toS σ i)
    (hth : σ' 9 i 5 ≠ 0 → σ' 9 i 5 = (if σ' 9 i 2 = 0 then begS σ i else srt σ (σ' 10 i (3 * (σ' 9 i 2 - 1))) (σ' 10 i (3 * (σ' 9 i 2 - 1) + 2))) + 1) : WF σ' := by
  have e0 : ∀ y q, σ' 0 y q = σ 0 y q := fun y q => h.k (x := 0) _ _ (by decide) (by decide) (by decide)
  have e1 : ∀ y q, σ' 1 y q = σ 1 y q := fun y q => h.k (x := 1) _ _ (by decide) (by decide) (by decide)
  have e2 : ∀ y q, σ' 2 y q = σ 2 y q := fun y q => h.k (x := 2) _ _ (by decide) (by decide) (by decide)
  have e3 : ∀ y q, σ' 3 y q = σ 3 y q := fun y q => h.k (x := 3) _ _ (by decide) (by decide) (by decide)
  have e4 : ∀ y q, σ' 4 y q = σ 4 y q := fun y q => h.k (x := 4) _ _ (by decide) (by decide) (by decide)
  have e5 : ∀ y q, σ' 5 y q = σ 5 y q := fun y q => h.k (x := 5) _ _ (by decide) (by decide) (by decide)
  have e6 : ∀ y q, σ' 6 y q = σ 6 y q := fun y q => h.k (x := 6) _ _ (by decide) (by decide) (by decide)
  have e8 : ∀ y q, σ' 8 y q = σ 8 y q := fun y q => h.k (x := 8) _ _ (by decide) (by decide) (by decide)
  have e11 : ∀ y q, σ' 11 y q = σ 11 y q := fun y q => h.k (x := 11) _ _ (by decide) (by decide) (by decide)
  have e9 : ∀ y q, y ≠ i → σ' 9 y q = σ 9 y q := fun y q hy => h 9 y q (by decide) (fun e => hy e.2)
  have e10 : ∀ y q, y ≠ i → σ' 10 y q = σ 10 y q := fun y q hy => h 10 y q (by decide) (fun e => hy e.2)
  have es := h.sr
  have ew := h.way
  refine ⟨by rw [e0]; exact wf.now, by rw [e0]; exact wf.st, by rw [e0]; exact wf.tr, by rw [e0]; exact wf.bx, by rw [e0]; exact wf.ca, fun a => by rw [e1]; exact wf.sort a, fun a => by rw [e2]; exact wf.room a, fun a => by rw [e3]; exact wf.stops a, fun a => by rw [e4]; exact wf.canc a, fun a b => by rw [e5]; exact wf.sta a b, fun a b => by rw [e6]; exact wf.min a b, fun a b c => by rw [e3, e6, e6]; exact wf.inc a b c, fun a b hb => hl a b (by rw [← e3]; exact hb), fun b => by simp only [e8]; exact wf.box b, fun y => ?_, fun y j hj => ?_, fun y j => ?_, fun y j hj => ?_, fun y hy => ?_, fun y hy => ?_, fun a => by rw [e11]; exact wf.days a, fun t ht => ?_, fun y hy => ?_, fun b hb => by rw [e8]; rw [e0] at hb; exact wf.freshB b hb, fun b hb => by rw [e8] at hb ⊢; exact wf.rb b hb⟩
  · by_cases q : y = i
    · subst q; exact hw
    · simp only [e9 y _ q]; exact wf.way y
  · rw [e0]
    by_cases q : y = i
    · subst q; rw [e3]; exact hleg j hj
    · rw [e9 y _ q] at hj
      rw [e10 y _ q, e10 y _ q, e10 y _ q, e3]
      exact wf.leg y j hj
  · by_cases q : y = i
    · subst q; exact hlb j
    · rw [e10 y _ q]; exact wf.legb y j
  · rw [es, e6, e5, (ew y).2.2.2.1]
    by_cases q : y = i
    · subst q; exact hch j hj
    · rw [e9 y _ q] at hj
      simp only [e10 y _ q]
      exact wf.chain y j hj
  · rw [(ew y).1, (ew y).2.2.2.1]
    by_cases q : y = i
    · subst q; exact hft hy
    · rw [e9 y _ q] at hy
      exact wf.ft y hy
  · unfold thereS
    rw [es, (ew y).2.2.2.2.2.2]
    by_cases q : y = i
    · subst q; exact hth hy
    · rw [e9 y _ q] at hy ⊢
      rw [e9 y _ q, e10 y _ q, e10 y _ q]
      exact wf.there y hy
  · rw [e0] at ht
    have f := wf.freshT t ht
    rw [e3, e4, e2]
    refine ⟨f.1, f.2.1, f.2.2.1, fun k => ?_⟩
    rw [e5, e6]
    exact ⟨(f.2.2.2 k).1, (f.2.2.2 k).2.1, hl t k (by rw [f.1]; omega)⟩
  · rw [e0, e8] at hy
    have hne : y ≠ i := by
      rintro rfl
      have := hi.1
      have := hi.2
      omega
    rw [e9 y _ hne, e9 y _ hne, e9 y _ hne, e9 y _ hne, e0]
    have f := wf.freshW y hy
    exact ⟨f.1, f.2.1, f.2.2.1, f.2.2.2.1, fun j => by rw [e10 y _ hne]; exact f.2.2.2.2 j⟩
theorem stand_x {s m : Nat} : SameX i (standS σ i s m) σ := by
  intro x y q h7 h
  unfold standS
  rw [us_at, us_at, us_at, if_neg (fun e => h ⟨Or.inl e.1, e.2.1⟩), if_neg (fun e => h ⟨Or.inl e.1, e.2.1⟩), if_neg (fun e => h ⟨Or.inl e.1, e.2.1⟩)]
theorem WF_stand (wf : WF σ) (hi : okW σ i) {s m : Nat} (hs : s < 10) (hm : m ≤ 3000) : WF (standS σ i s m) := by
  have f0 : standS σ i s m 9 i 0 = σ 9 i 0 := by simp [standS, us]
  have f2 : standS σ i s m 9 i 2 = σ 9 i 2 := by simp [standS, us]
  have f3 : standS σ i s m 9 i 3 = s + 1 := by simp [standS, us]
  have f4 : standS σ i s m 9 i 4 = m := by simp [standS, us]
  have f5 : standS σ i s m 9 i 5 = 0 := by simp [standS, us]
  have f7 : ∀ t k, standS σ i s m 7 t k = σ 7 t k := fun t k => by simp [standS, us]
  have f10 : ∀ j, standS σ i s m 10 i j = σ 10 i j := fun j => by simp [standS, us]
  have hw := wf.way i
  refine WF_upd wf stand_x hi (fun t k h => by rw [f7]; exact wf.load t k h) ?_ ?_ ?_ ?_ ?_ ?_
  · rw [f0, f2, f3, f4, f5]; omega
  · intro j hj; rw [f2] at hj; simp only [f10]; exact wf.leg i j hj
  · intro j; rw [f10]; exact wf.legb i j
  · intro j hj; rw [f2] at hj; simp only [f10]; exact wf.chain i j hj
  · rw [f2]; exact wf.ft i
  · rw [f5]; exact fun q => absurd rfl q
def LegB (σ : SG) (x : LG) : Prop := x.1 < σ 0 2 0 ∧ x.2.1 < x.2.2 ∧ x.2.2 < σ 3 x.1 0
def Way (σ : SG) (to T : Nat) : Nat → Nat → List LG → Prop
  | s, m, [] => s = to ∧ m = T
  | s, m, x :: l => s ≠ to ∧ LegB σ x ∧ σ 5 x.1 x.2.1 = s ∧ m ≤ σ 6 x.1 x.2.1 ∧ Way σ to T (σ 5 x.1 x.2.2) (srt σ x.1 x.2.2) l
theorem fst_ex {P : LG → Prop} (h : ∃ x, P x) : ∃ x, isFst P x := by
  obtain ⟨⟨a, b, c⟩, h⟩ := h
  obtain ⟨t, ⟨b1, c1, ht⟩, ht2⟩ := pk_least (fun t => ∃ b c, P (t, b, c)) ⟨a, b, c, h⟩
  obtain ⟨on, ⟨c2, ho⟩, ho2⟩ := pk_least (fun on => ∃ c, P (t, on, c)) ⟨b1, c1, ht⟩
  obtain ⟨off, hf, hf2⟩ := pk_least (fun off => P (t, on, off)) ⟨c2, ho⟩
  refine ⟨(t, on, off), hf, fun y hy hp => ?_⟩
  obtain ⟨x, y, q⟩ := y
  rcases hy with h1 | ⟨h1, h2 | ⟨h2, h3⟩⟩
  · exact ht2 x h1 ⟨y, q, hp⟩
  · have h1 : x = t := h1
    subst h1
    exact ho2 y h2 ⟨q, hp⟩
  · have h1 : x = t := h1
    have h2 : y = on := h2
    subst h1; subst h2
    exact hf2 q h3 hp
theorem legs_way (wf : WF σ) {to T : Nat} : ∀ (N l s m : Nat), isBest σ to l s m T N → Way σ to T s m (legsS σ to T N s m) ∧ (legsS σ to T N s m).length = N
  | 0, l, s, m, h => ⟨⟨h.2.1.1, h.2.1.2.symm⟩, rfl⟩
  | N + 1, l, s, m, h => by
    obtain ⟨t0, on0, off0, g1, g2, g3, g4⟩ := h.2.1
    obtain ⟨x, hx⟩ := fst_ex (P := OkL σ to T N s m) ⟨(t0, on0, off0), g1, g2, g3, T, Nat.le_refl _, g4⟩
    have e9 : legsS σ to T (N + 1) s m = x :: legsS σ to T N (σ 5 x.1 x.2.2) (srt σ x.1 x.2.2) := by
      rw [legsS, firstL_eq hx]
    rw [e9]
    obtain ⟨l', rfl⟩ : ∃ l', l = l' + 1 := ⟨l - 1, by have := h.1; omega⟩
    have ih := legs_way wf N l' _ _ (best_next wf h hx.1)
    refine ⟨⟨fun q => ?_, ⟨hx.1.1.1, hx.1.1.2.1, hx.1.1.2.2.1⟩, hx.1.2.1, hx.1.2.2.1, ih.1⟩, by rw [List.length_cons, ih.2]⟩
    have := isBest_uniq h (best_zero wf.inc q)
    omega
theorem lgl_x {x : LG} : SameX i (lgS (lodS σ x.1 x.2.1 x.2.2 1) i x) σ := by
  intro a b c h7 h
  simp only [lgS, us_at]
  rw [if_neg (fun q => h ⟨Or.inl q.1, q.2.1⟩), if_neg (fun q => h ⟨Or.inr q.1, q.2.1⟩), if_neg (fun q => h ⟨Or.inr q.1, q.2.1⟩), if_neg (fun q => h ⟨Or.inr q.1, q.2.1⟩), lod_ne h7]
theorem Way.mono {to T : Nat} (h : SameX i σ' σ) : ∀ (L : List LG) (s m : Nat), Way σ to T s m L → Way σ' to T s m L
  | [], _, _, w => w
  | x :: l, s, m, ⟨a, b, c, d, e⟩ => by
    have e5 : ∀ y q, σ' 5 y q = σ 5 y q := fun y q => h.k (x := 5) _ _ (by decide) (by decide) (by decide)
    refine ⟨a, ?_, ?_, ?_, ?_⟩
    · unfold LegB
      rw [h.k (x := 0) _ _ (by decide) (by decide) (by decide), h.k (x := 3) _ _ (by decide) (by decide) (by decide)]
      exact b
    · rw [e5]; exact c
    · rw [h.k (x := 6) _ _ (by decide) (by decide) (by decide)]; exact d
    · rw [e5, h.sr]
      exact Way.mono h l _ _ e
/-- where the legs so far end -/
def PW (σ : SG) (i s m : Nat) : Prop := σ 9 i 5 = 0 ∧ (0 < σ 9 i 2 → s = σ 5 (σ 10 i (3 * (σ 9 i 2 - 1))) (σ 10 i (3 * (σ 9 i 2 - 1) + 2)) ∧ srt σ (σ 10 i (3 * (σ 9 i 2 - 1))) (σ 10 i (3 * (σ 9 i 2 - 1) + 2)) ≤ m) ∧ (σ 9 i 2 = 0 → s = fromS σ i) ∧ (s = toS σ i → m = thereS σ i)
theorem WF_all {T : Nat} : ∀ (L : List LG) (σ : SG) (s m : Nat), WF σ → okW σ i → PW σ i s m → σ 9 i 2 + L.length ≤ 3 → Way σ (toS σ i) T s m L → T ≤ 3000 → WF (endS (addAll σ i L) i T)
  | [], σ, s, m, wf, hi, hp, hn, hw, hT => by
    have f0 : endS σ i T 9 i 0 = 1 := by simp [endS, us]
    have f2 : endS σ i T 9 i 2 = σ 9 i 2 := by simp [endS, us]
    have f3 : endS σ i T 9 i 3 = 0 := by simp [endS, us]
    have f4 : endS σ i T 9 i 4 = 0 := by simp [endS, us]
    have f5 : endS σ i T 9 i 5 = T + 1 := by simp [endS, us]
    have f7 : ∀ t k, endS σ i T 7 t k = σ 7 t k := fun t k => by simp [endS, us]
    have f10 : ∀ j, endS σ i T 10 i j = σ 10 i j := fun j => by simp [endS, us]
    have hx : SameX i (endS σ i T) σ := by
      intro x y q h7 h
      unfold endS
      rw [us_at, us_at, us_at, us_at, if_neg (fun e => h ⟨Or.inl e.1, e.2.1⟩), if_neg (fun e => h ⟨Or.inl e.1, e.2.1⟩), if_neg (fun e => h ⟨Or.inl e.1, e.2.1⟩), if_neg (fun e => h ⟨Or.inl e.1, e.2.1⟩)]
    have hw0 := wf.way i
    show WF (endS σ i T)
    refine WF_upd wf hx hi (fun t k h => by rw [f7]; exact wf.load t k h) ?_ ?_ ?_ ?_ ?_ ?_
    · rw [f0, f2, f3, f4, f5]; omega
    · intro j hj; rw [f2] at hj; simp only [f10]; exact wf.leg i j hj
    · intro j; rw [f10]; exact wf.legb i j
    · intro j hj; rw [f2] at hj; simp only [f10]; exact wf.chain i j hj
    · rw [f2]; exact wf.ft i
    · intro _
      rw [f5, f2, f10, f10]
      have := hp.2.2.2 hw.1
      have e := hw.2
      unfold thereS at this
      rw [← this, e]
  | x :: L, σ, s, m, wf, hi, hp, hn, hw, hT => by
    obtain ⟨w1, w2, w3, w4, w5⟩ := hw
    have hn : σ 9 i 2 + (L.length + 1) ≤ 3 := hn
    have f2 : lgS (lodS σ x.1 x.2.1 x.2.2 1) i x 9 i 2 = σ 9 i 2 + 1 := by rw [lg_many, lod_ne (by decide)]
    have fo : ∀ q, q ≠ 2 → lgS (lodS σ x.1 x.2.1 x.2.2 1) i x 9 i q = σ 9 i q := fun q hq => by simp [lgS, us, lodS, hq]
    have fl := lg_leg (σ := lodS σ x.1 x.2.1 x.2.2 1) (i := i) (x := x)
    rw [lod_ne (σ := σ) (x := 9) (by decide)] at fl
    have f10 : ∀ j, j < 3 * σ 9 i 2 ∨ 3 * σ 9 i 2 + 2 < j → lgS (lodS σ x.1 x.2.1 x.2.2 1) i x 10 i j = σ 10 i j := by
      intro j hj
      simp only [lgS, us_at, lod_ne (σ := σ) (x := 9) (show 9 ≠ 7 by decide)]
      rw [if_neg (fun q => by omega), if_neg (fun q => by omega), if_neg (fun q => by omega), if_neg (fun q => by omega), lod_ne (by decide)]
    have hw0 := wf.way i
    have h16 := wf.tr
    have hst := wf.stops x.1
    have hx1 := w2.1
    have hx2 := w2.2.1
    have hx3 := w2.2.2
    have wf2 : WF (lgS (lodS σ x.1 x.2.1 x.2.2 1) i x) := by
      refine WF_upd wf lgl_x hi ?_ ?_ ?_ ?_ ?_ ?_ ?_
      · intro t k hk
        rw [lg_7]
        unfold lodS
        split
        · rename_i q
          have := q.2.2.2
          rw [q.2.1] at hk
          omega
        · exact wf.load t k hk
      · rw [f2, fo 0 (by decide), fo 3 (by decide), fo 4 (by decide), fo 5 (by decide)]
        have := hp.1
        omega
      · intro j hj
        rw [f2] at hj
        by_cases q : j = σ 9 i 2
        · subst q
          rw [fl.1, fl.2.1, fl.2.2]
          exact w2
        · rw [f10 _ (by omega), f10 _ (by omega), f10 _ (by omega)]
          exact wf.leg i j (by omega)
      · intro j
        by_cases q : j < 3 * σ 9 i 2 ∨ 3 * σ 9 i 2 + 2 < j
        · rw [f10 j q]; exact wf.legb i j
        · have : j = 3 * σ 9 i 2 ∨ j = 3 * σ 9 i 2 + 1 ∨ j = 3 * σ 9 i 2 + 2 := by omega
          rcases this with rfl | rfl | rfl
          · rw [fl.1]; omega
          · rw [fl.2.1]; omega
          · rw [fl.2.2]; omega
      · intro j hj
        rw [f2] at hj
        rw [f10 (3 * j) (by omega), f10 (3 * j + 2) (by omega)]
        by_cases q : j + 1 = σ 9 i 2
        · rw [q, fl.1, fl.2.1]
          have e : j = σ 9 i 2 - 1 := by omega
          have := hp.2.1 (by omega)
          rw [e]
          refine ⟨by omega, ?_⟩
          rw [← this.1]
          exact w1
        · rw [f10 _ (by omega), f10 _ (by omega)]
          exact wf.chain i j (by omega)
      · intro _
        by_cases q : σ 9 i 2 = 0
        · rw [← hp.2.2.1 q]; exact w1
        · exact wf.ft i (by omega)
      · rw [fo 5 (by decide)]
        exact fun q => absurd hp.1 q
    have ew := (lgl_x (σ := σ) (i := i) (x := x)).way i
    have es := (lgl_x (σ := σ) (i := i) (x := x)).sr
    have e5 : ∀ y q, lgS (lodS σ x.1 x.2.1 x.2.2 1) i x 5 y q = σ 5 y q := fun y q => (lgl_x (σ := σ) (i := i) (x := x)).k (x := 5) _ _ (by decide) (by decide) (by decide)
    refine WF_all L (lgS (lodS σ x.1 x.2.1 x.2.2 1) i x) (σ 5 x.1 x.2.2) (srt σ x.1 x.2.2) wf2 (okW_lg (okW_lod hi)) ⟨?_, ?_, ?_, ?_⟩ (by rw [f2]; omega) ?_ hT
    · rw [fo 5 (by decide)]; exact hp.1
    · intro _
      rw [f2, Nat.add_sub_cancel, fl.1, fl.2.2, e5, es]
      exact ⟨rfl, Nat.le_refl _⟩
    · intro q; rw [f2] at q; omega
    · intro _
      unfold thereS
      rw [f2, if_neg (by omega), Nat.add_sub_cancel, fl.1, fl.2.2, es]
    · rw [ew.2.2.2.1]
      exact Way.mono lgl_x L _ _ w5
theorem Way.T {to T : Nat} (wf : WF σ) : ∀ (L : List LG) (s m : Nat), Way σ to T s m L → m ≤ 3000 → T ≤ 3000
  | [], _, _, h, hm => by have := h.2; omega
  | x :: l, s, m, h, _ => Way.T wf l _ _ h.2.2.2.2 (by have := wf.srtb x.1 x.2.2; omega)
theorem WF_lead (wf : WF σ) (hi : okW σ i) {s m : Nat} (hp : PW σ i s m) (hm : m ≤ 3000) (h : leadF σ i s m = some σ') : WF σ' := by
  unfold leadF at h
  cases hb : bestS σ (toS σ i) (3 - σ 9 i 2) s m with
  | none => rw [hb] at h; cases h
  | some q =>
    obtain ⟨T, N⟩ := q
    rw [hb] at h
    injection h with h
    subst h
    have hbest : isBest σ (toS σ i) (3 - σ 9 i 2) s m T N := by
      unfold bestS at hb
      by_cases hex : ∃ x : Nat × Nat, isBest σ (toS σ i) (3 - σ 9 i 2) s m x.1 x.2
      · rw [dif_pos hex] at hb
        injection hb with hb
        have := hex.choose_spec
        rw [hb] at this
        exact this
      · rw [dif_neg hex] at hb; cases hb
    have hl := legs_way wf N _ s m hbest
    have := (wf.way i).2.1
    exact WF_all _ σ s m wf hi hp (by rw [hl.2]; have := hbest.1; omega) hl.1 (Way.T wf _ _ _ hl.1 hm)
theorem SNw_upd {w : Nat} (h : SNw σ w) (hx : SameX i σ' σ) (hw : w ≠ i) : SNw σ' w := by
  have e9 : ∀ q, σ' 9 w q = σ 9 w q := fun q => hx 9 w q (by decide) (fun e => hw e.2)
  have e10 : ∀ q, σ' 10 w q = σ 10 w q := fun q => hx 10 w q (by decide) (fun e => hw e.2)
  have e5 : ∀ y q, σ' 5 y q = σ 5 y q := fun y q => hx.k (x := 5) _ _ (by decide) (by decide) (by decide)
  have e0 : ∀ y q, σ' 0 y q = σ 0 y q := fun y q => hx.k (x := 0) _ _ (by decide) (by decide) (by decide)
  have ew := hx.way w
  unfold SNw
  simp only [e9, e10, e5, e0, hx.sr, ew.1, ew.2.2.2.1]
  exact h
theorem HN_upd (h : HN σ) (hx : SameX i σ' σ) (hi : σ' 9 i 0 = 0 → σ' 9 i 2 = 0 ∧ σ' 9 i 5 = 0) : HN σ' := by
  intro w hw
  by_cases q : w = i
  · subst q; exact hi hw
  · have e9 : ∀ q, σ' 9 w q = σ 9 w q := fun r => hx 9 w r (by decide) (fun e => q e.2)
    simp only [e9] at hw ⊢
    exact h w hw
theorem all_x : ∀ (L : List LG) (σ : SG), SameX i (addAll σ i L) σ
  | [], _ => fun _ _ _ _ _ => rfl
  | x :: l, σ => fun a b c h7 h => by
    show addAll (lgS (lodS σ x.1 x.2.1 x.2.2 1) i x) i l a b c = _
    rw [all_x l _ a b c h7 h]
    exact lgl_x a b c h7 h
theorem end_x {T : Nat} : SameX i (endS σ i T) σ := by
  intro x y q h7 h
  unfold endS
  rw [us_at, us_at, us_at, us_at, if_neg (fun e => h ⟨Or.inl e.1, e.2.1⟩), if_neg (fun e => h ⟨Or.inl e.1, e.2.1⟩), if_neg (fun e => h ⟨Or.inl e.1, e.2.1⟩), if_neg (fun e => h ⟨Or.inl e.1, e.2.1⟩)]
theorem lead_x {s m : Nat} (h : leadF σ i s m = some σ') : SameX i σ' σ ∧ σ' 9 i 0 = 1 ∧ σ' 9 i 3 = 0 := by
  unfold leadF at h
  cases hb : bestS σ (toS σ i) (3 - σ 9 i 2) s m with
  | none => rw [hb] at h; cases h
  | some q =>
    obtain ⟨T, N⟩ := q
    rw [hb] at h
    injection h with h
    subst h
    refine ⟨fun a b c h7 h => ?_, by simp [endS, us], by simp [endS, us]⟩
    rw [end_x a b c h7 h]
    exact all_x _ _ a b c h7 h
theorem SN_lead (hs : SN σ) {s m : Nat} (h : leadF σ i s m = some σ') : SN σ' := by
  obtain ⟨hx, h0, h3⟩ := lead_x h
  refine ⟨fun w => ?_, HN_upd hs.2 hx (fun q => by rw [h0] at q; cases q)⟩
  by_cases q : w = i
  · subst q; exact fun q => absurd h3 q
  · exact SNw_upd (hs.1 w) hx q
end WFU
