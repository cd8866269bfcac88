/-! box: what a new box does to the day -/
def bxS (σ : SG) (h w r d wt u : Nat) : SG := us (us (us (us (us (us (us (us (us (us (us σ 8 (σ 0 3 0) 0 h) 8 (σ 0 3 0) 1 w) 8 (σ 0 3 0) 2 r) 8 (σ 0 3 0) 3 d) 8 (σ 0 3 0) 4 wt) 8 (σ 0 3 0) 5 u) 9 (2 * σ 0 3 0) 3 0) 9 (2 * σ 0 3 0) 4 0) 9 (2 * σ 0 3 0 + 1) 3 0) 9 (2 * σ 0 3 0 + 1) 4 0) 0 3 0 (σ 0 3 0 + 1)
def FT (σ κ : SG) (w k : Nat) : Int32 := if k = 0 then nI (fromS σ w) else if k = 1 then nI (wfromS σ w) else if k = 2 then nI (readyS σ w) else if k = 3 then nI (toS σ w) else if k = 4 then nI (wtoS σ w) else if k = 5 then nI (dueS σ w) else if k = 7 then nI (σ 9 w 2) else if k = 8 then nI (σ 9 w 0) else if k = 9 then m1 (σ 9 w 5) else if k = 10 then m1 (σ 9 w 3) else if k = 11 then (if σ 9 w 3 = 0 then -1 else nI (σ 9 w 4)) else nI (κ 3 w 0)
section BOX
variable {σ κ τ μ : SG} {z : BB} {w : PS}
theorem bx_k {h w r d wt u x y q : Nat} (h0 : x ≠ 0) (h8 : x ≠ 8) (h9 : x ≠ 9) : bxS σ h w r d wt u x y q = σ x y q := by
  unfold bxS
  rw [us_ne h0, us_ne h9, us_ne h9, us_ne h9, us_ne h9, us_ne h8, us_ne h8, us_ne h8, us_ne h8, us_ne h8, us_ne h8]
theorem bx_0 {h w r d wt u y : Nat} (hy : y ≠ 3) : bxS σ h w r d wt u 0 y 0 = σ 0 y 0 := by
  unfold bxS
  rw [us_at, if_neg (fun e => hy e.2.1), us_ne (by decide), us_ne (by decide), us_ne (by decide), us_ne (by decide), us_ne (by decide), us_ne (by decide), us_ne (by decide), us_ne (by decide), us_ne (by decide), us_ne (by decide)]
theorem bx_03 {h w r d wt u : Nat} : bxS σ h w r d wt u 0 3 0 = σ 0 3 0 + 1 := us_self
theorem bx_8n {h w r d wt u y q : Nat} (hy : y ≠ σ 0 3 0) : bxS σ h w r d wt u 8 y q = σ 8 y q := by
  simp [bxS, us, hy]
theorem bx_8b {h w r d wt u q : Nat} : bxS σ h w r d wt u 8 (σ 0 3 0) q = if q = 0 then h else if q = 1 then w else if q = 2 then r else if q = 3 then d else if q = 4 then wt else if q = 5 then u else σ 8 (σ 0 3 0) q := by
  by_cases q0 : q = 0
  · subst q0; simp [bxS, us]
  by_cases q1 : q = 1
  · subst q1; simp [bxS, us]
  by_cases q2 : q = 2
  · subst q2; simp [bxS, us]
  by_cases q3 : q = 3
  · subst q3; simp [bxS, us]
  by_cases q4 : q = 4
  · subst q4; simp [bxS, us]
  by_cases q5 : q = 5
  · subst q5; simp [bxS, us]
  simp [bxS, us, q0, q1, q2, q3, q4, q5]
theorem bx_9n {h w r d wt u y q : Nat} (hy : y / 2 ≠ σ 0 3 0) : bxS σ h w r d wt u 9 y q = σ 9 y q := by
  have a : ¬ y = 2 * σ 0 3 0 := by omega
  have b : ¬ y = 2 * σ 0 3 0 + 1 := by omega
  simp [bxS, us, a, b]
theorem bx_9o {h w r d wt u y q : Nat} (h3 : q ≠ 3) (h4 : q ≠ 4) : bxS σ h w r d wt u 9 y q = σ 9 y q := by
  simp [bxS, us, h3, h4]
theorem bx_93 {h w r d wt u y : Nat} (hy : y / 2 = σ 0 3 0) : bxS σ h w r d wt u 9 y 3 = 0 ∧ bxS σ h w r d wt u 9 y 4 = 0 := by
  have : y = 2 * σ 0 3 0 ∨ y = 2 * σ 0 3 0 + 1 := by omega
  rcases this with e | e <;> subst e <;> simp [bxS, us]
theorem bx_srt {h w r d wt u t k : Nat} : srt (bxS σ h w r d wt u) t k = srt σ t k := by
  unfold srt
  rw [bx_k (by decide) (by decide) (by decide), bx_k (by decide) (by decide) (by decide), bx_k (by decide) (by decide) (by decide)]
theorem bx_w {h w r d wt u i : Nat} (hy : i / 2 ≠ σ 0 3 0) : fromS (bxS σ h w r d wt u) i = fromS σ i ∧ wfromS (bxS σ h w r d wt u) i = wfromS σ i ∧ readyS (bxS σ h w r d wt u) i = readyS σ i ∧ toS (bxS σ h w r d wt u) i = toS σ i ∧ wtoS (bxS σ h w r d wt u) i = wtoS σ i ∧ dueS (bxS σ h w r d wt u) i = dueS σ i := by
  unfold fromS wfromS readyS toS wtoS dueS
  simp only [bx_8n hy, and_self]
theorem bx_beg {h w r d wt u i : Nat} (hy : i / 2 ≠ σ 0 3 0) : begS (bxS σ h w r d wt u) i = begS σ i := by
  have e := bx_w (σ := σ) (h := h) (w := w) (r := r) (d := d) (wt := wt) (u := u) hy
  unfold begS
  rw [e.1, e.2.1, e.2.2.1, bx_k (by decide) (by decide) (by decide)]
theorem INV3_bx (hv : INV3 σ) {h w r d wt u : Nat} (hb : σ 0 3 0 < 60) (hh : h < σ 0 1 0) (hd : d < σ 0 1 0) (hw : w ≤ 120) (hwt : wt ≤ 120) (hr : r ≤ 1439) (hu : u ≤ 1439) : INV3 (bxS σ h w r d wt u) := by
  have wf := hv.1.1
  have hst := wf.st
  have k : ∀ x y q, x ≠ 0 → x ≠ 8 → x ≠ 9 → bxS σ h w r d wt u x y q = σ x y q := fun x y q a b c => bx_k a b c
  have frW : ∀ i, i / 2 = σ 0 3 0 → σ 9 i 0 = 0 ∧ σ 9 i 2 = 0 ∧ σ 9 i 5 = 0 ∧ ∀ j, σ 10 i j = 0 := fun i hi => by
    have := wf.freshW i (Or.inl (by omega))
    exact ⟨this.1, this.2.1, this.2.2.1, this.2.2.2.2⟩
  have wf' : WF (bxS σ h w r d wt u) := by
    refine ⟨?_, ?_, ?_, ?_, ?_, ?_, ?_, ?_, ?_, ?_, ?_, ?_, ?_, ?_, ?_, ?_, ?_, ?_, ?_, ?_, ?_, ?_, ?_, ?_, ?_⟩
    · rw [bx_0 (by decide)]; exact wf.now
    · rw [bx_0 (by decide)]; exact wf.st
    · rw [bx_0 (by decide)]; exact wf.tr
    · rw [bx_03]; omega
    · rw [bx_0 (by decide)]; exact wf.ca
    · intro i; rw [k 1 _ _ (by decide) (by decide) (by decide)]; exact wf.sort i
    · intro i; rw [k 2 _ _ (by decide) (by decide) (by decide)]; exact wf.room i
    · intro i; rw [k 3 _ _ (by decide) (by decide) (by decide)]; exact wf.stops i
    · intro i; rw [k 4 _ _ (by decide) (by decide) (by decide)]; exact wf.canc i
    · intro i j; rw [k 5 _ _ (by decide) (by decide) (by decide)]; exact wf.sta i j
    · intro i j; rw [k 6 _ _ (by decide) (by decide) (by decide)]; exact wf.min i j
    · intro a b c; rw [k 3 _ _ (by decide) (by decide) (by decide), k 6 _ _ (by decide) (by decide) (by decide), k 6 _ _ (by decide) (by decide) (by decide)]; exact wf.inc a b c
    · intro a b; rw [k 3 _ _ (by decide) (by decide) (by decide), k 7 _ _ (by decide) (by decide) (by decide)]; exact wf.load a b
    · intro b
      have hx := wf.box b
      by_cases q : b = σ 0 3 0
      · subst q
        simp only [bx_8b]
        simp
        omega
      · simp only [bx_8n q]; exact hx
    · intro i
      have hx := wf.way i
      by_cases q : i / 2 = σ 0 3 0
      · have e := bx_93 (σ := σ) (h := h) (w := w) (r := r) (d := d) (wt := wt) (u := u) q
        rw [e.1, e.2, bx_9o (by decide) (by decide), bx_9o (by decide) (by decide), bx_9o (by decide) (by decide)]
        omega
      · simp only [bx_9n q]; exact hx
    · intro i j hj
      rw [bx_9o (by decide) (by decide)] at hj
      simp only [k 10 _ _ (by decide) (by decide) (by decide), k 3 _ _ (by decide) (by decide) (by decide)]
      rw [bx_0 (by decide)]
      exact wf.leg i j hj
    · intro i j; rw [k 10 _ _ (by decide) (by decide) (by decide)]; exact wf.legb i j
    · intro i j hj
      rw [bx_9o (by decide) (by decide)] at hj
      have q : i / 2 ≠ σ 0 3 0 := fun q => by have := (frW i q).2.1; omega
      simp only [k 10 _ _ (by decide) (by decide) (by decide), k 5 _ _ (by decide) (by decide) (by decide), k 6 _ _ (by decide) (by decide) (by decide), bx_srt, (bx_w (σ := σ) (h := h) (w := w) (r := r) (d := d) (wt := wt) (u := u) q).2.2.2.1]
      exact wf.chain i j hj
    · intro i hi
      rw [bx_9o (by decide) (by decide)] at hi
      have q : i / 2 ≠ σ 0 3 0 := fun q => by have := (frW i q).2.1; omega
      have e := bx_w (σ := σ) (h := h) (w := w) (r := r) (d := d) (wt := wt) (u := u) q
      rw [e.1, e.2.2.2.1]
      exact wf.ft i hi
    · intro i hi
      rw [bx_9o (by decide) (by decide)] at hi ⊢
      have q : i / 2 ≠ σ 0 3 0 := fun q => hi (frW i q).2.2.1
      rw [wf.there i hi]
      unfold thereS
      rw [bx_9o (by decide) (by decide), bx_beg q, bx_srt, k 10 _ _ (by decide) (by decide) (by decide), k 10 _ _ (by decide) (by decide) (by decide)]
    · intro i; rw [k 11 _ _ (by decide) (by decide) (by decide)]; exact wf.days i
    · intro t ht
      rw [bx_0 (by decide)] at ht
      have f := wf.freshT t ht
      rw [k 3 _ _ (by decide) (by decide) (by decide), k 4 _ _ (by decide) (by decide) (by decide), k 2 _ _ (by decide) (by decide) (by decide)]
      refine ⟨f.1, f.2.1, f.2.2.1, fun j => ?_⟩
      rw [k 5 _ _ (by decide) (by decide) (by decide), k 6 _ _ (by decide) (by decide) (by decide), k 7 _ _ (by decide) (by decide) (by decide)]
      exact f.2.2.2 j
    · intro i hi
      rw [bx_03] at hi ⊢
      rw [bx_9o (by decide) (by decide), bx_9o (by decide) (by decide), bx_9o (by decide) (by decide)]
      simp only [k 10 _ _ (by decide) (by decide) (by decide)]
      by_cases q : i / 2 = σ 0 3 0
      · have f := frW i q
        exact ⟨f.1, f.2.1, f.2.2.1, fun _ => (bx_93 q).1, f.2.2.2⟩
      · rw [bx_8n q] at hi
        have f := wf.freshW i (by omega)
        refine ⟨f.1, f.2.1, f.2.2.1, fun u => ?_, f.2.2.2.2⟩
        rw [bx_9n q]
        exact f.2.2.2.1 (by omega)
    · intro b hb2
      rw [bx_03] at hb2
      rw [bx_8n (by omega)]
      exact wf.freshB b (by omega)
    · intro b hb2
      by_cases q : b = σ 0 3 0
      · subst q
        rw [bx_8b] at hb2 ⊢
        simp at hb2 ⊢
        exact wf.rb _ hb2
      · rw [bx_8n q] at hb2 ⊢
        exact wf.rb b hb2
  refine ⟨⟨wf', fun i h3 hi => ?_, fun i hi => ?_⟩, fun t j hj => ?_, fun b hb2 => ?_⟩
  · rw [bx_03] at hi
    have q : i / 2 ≠ σ 0 3 0 := fun q => h3 (bx_93 q).1
    have e := bx_w (σ := σ) (h := h) (w := w) (r := r) (d := d) (wt := wt) (u := u) q
    simp only [bx_9n q] at h3 ⊢
    simp only [e.1, e.2.2.2.1, bx_srt, k 10 _ _ (by decide) (by decide) (by decide), k 5 _ _ (by decide) (by decide) (by decide)]
    exact hv.1.2.1 i h3 (by omega)
  · rw [bx_9o (by decide) (by decide)] at hi
    rw [bx_9o (by decide) (by decide), bx_9o (by decide) (by decide)]
    exact hv.1.2.2 i hi
  · rw [k 3 _ _ (by decide) (by decide) (by decide)] at hj
    rw [k 5 _ _ (by decide) (by decide) (by decide), bx_0 (by decide)]
    exact hv.2.1 t j hj
  · rw [bx_03] at hb2
    rw [bx_0 (by decide)]
    by_cases q : b = σ 0 3 0
    · subst q
      rw [bx_8b, bx_8b]
      exact ⟨hh, hd⟩
    · rw [bx_8n q, bx_8n q]
      exact hv.2.2 b (by omega)
/-- the class's store over a day in which some ways are new -/
theorem CR_way {s κ' : SG} {F F' A : F3} (P : Nat → Prop) (h : CR σ κ F A) (hbd : s 0 2 0 ≤ 16 ∧ s 0 3 0 ≤ 60 ∧ ∀ b, s 8 b 6 ≤ 1) (hk : ∀ x y q, x ≠ 0 → x ≠ 8 → x ≠ 9 → s x y q = σ x y q) (h0 : s 0 0 0 = σ 0 0 0 ∧ s 0 1 0 = σ 0 1 0 ∧ s 0 2 0 = σ 0 2 0 ∧ s 0 4 0 = σ 0 4 0)
    (hF : ∀ c i k, c ≠ 0 → c ≠ 1 → c ≠ 5 → F' c i k = F c i k) (hF0 : F' 0 0 2 = F 0 0 2) (hbx : F' 0 1 2 = nI (s 0 3 0)) (hem : ∀ b, F' 1 b 1 = nI (s 8 b 6)) (hP : ∀ w, P w → ∀ k, F' 5 w k = FT s κ' w k)
    (hn : ∀ w, ¬ P w → (∀ k, F' 5 w k = F 5 w k) ∧ (fromS s w = fromS σ w ∧ wfromS s w = wfromS σ w ∧ readyS s w = readyS σ w ∧ toS s w = toS σ w ∧ wtoS s w = wtoS σ w ∧ dueS s w = dueS σ w) ∧ (∀ q, s 9 w q = σ 9 w q) ∧ κ' 3 w 0 = κ 3 w 0) (hκ : ∀ a l x, a ≠ 3 → κ' a l x = κ a l x) : CR s κ' F' A := by
  have way : ∀ (w k : Nat) (G : Int32), (P w → FT s κ' w k = G) → (¬ P w → F 5 w k = G) → F' 5 w k = G := fun w k G h1 h2 => by
    by_cases q : P w
    · rw [hP w q k]; exact h1 q
    · rw [(hn w q).1 k]; exact h2 q
  refine ⟨hbd, ?_, ?_, hbx, ?_, ?_, ?_, ?_, ?_, ?_, ?_, ?_, ?_, hem, ?_, ?_, ?_, ?_, ?_, ?_, ?_, ?_, ?_, ?_, ?_, ?_, ?_, ?_, ?_, ?_, ?_⟩
  · rw [hF 3 0 1 (by decide) (by decide) (by decide), h0.2.1]; exact h.st
  · rw [hF0, h0.2.2.1]; exact h.tr
  · rw [hF 2 0 1 (by decide) (by decide) (by decide), h0.2.2.2]; exact h.ca
  · rw [hF 6 0 4 (by decide) (by decide) (by decide), h0.1]; exact h.now
  · intro i; rw [hk 1 _ _ (by decide) (by decide) (by decide)]; exact h.sort i
  · intro i; rw [hF 4 i 0 (by decide) (by decide) (by decide), hk 2 _ _ (by decide) (by decide) (by decide)]; exact h.room i
  · intro i; rw [hF 4 i 4 (by decide) (by decide) (by decide), hk 3 _ _ (by decide) (by decide) (by decide)]; exact h.stops i
  · intro i; rw [hF 4 i 5 (by decide) (by decide) (by decide), hk 4 _ _ (by decide) (by decide) (by decide)]; exact h.canc i
  · intro i j; rw [hk 5 _ _ (by decide) (by decide) (by decide)]; exact h.sta i j
  · intro i j; rw [hk 6 _ _ (by decide) (by decide) (by decide)]; exact h.min i j
  · intro i j; rw [hk 7 _ _ (by decide) (by decide) (by decide)]; exact h.load i j
  · exact fun w => way w 0 _ (fun _ => rfl) (fun q => by rw [(hn w q).2.1.1]; exact h.from w)
  · exact fun w => way w 1 _ (fun _ => rfl) (fun q => by rw [(hn w q).2.1.2.1]; exact h.wfrom w)
  · exact fun w => way w 2 _ (fun _ => rfl) (fun q => by rw [(hn w q).2.1.2.2.1]; exact h.ready w)
  · exact fun w => way w 3 _ (fun _ => rfl) (fun q => by rw [(hn w q).2.1.2.2.2.1]; exact h.to w)
  · exact fun w => way w 4 _ (fun _ => rfl) (fun q => by rw [(hn w q).2.1.2.2.2.2.1]; exact h.wto w)
  · exact fun w => way w 5 _ (fun _ => rfl) (fun q => by rw [(hn w q).2.1.2.2.2.2.2]; exact h.due w)
  · exact fun w => way w 7 _ (fun _ => rfl) (fun q => by rw [(hn w q).2.2.1]; exact h.many w)
  · exact fun w => way w 8 _ (fun _ => rfl) (fun q => by rw [(hn w q).2.2.1]; exact h.had w)
  · exact fun w => way w 9 _ (fun _ => rfl) (fun q => by rw [(hn w q).2.2.1]; exact h.there w)
  · exact fun w => way w 10 _ (fun _ => rfl) (fun q => by rw [(hn w q).2.2.1]; exact h.stands w)
  · exact fun w => way w 11 _ (fun _ => rfl) (fun q => by rw [(hn w q).2.2.1, (hn w q).2.2.1]; exact h.since w)
  · exact fun w => way w 12 _ (fun _ => rfl) (fun q => by rw [(hn w q).2.2.2]; exact h.off w)
  · intro i j; rw [hk 10 _ _ (by decide) (by decide) (by decide)]; exact h.leg i j
  · intro i; rw [hk 11 _ _ (by decide) (by decide) (by decide)]; exact h.days i
  · intro l i; rw [hκ 0 _ _ (by decide)]; exact h.earl l i
  · intro l i; rw [hκ 1 _ _ (by decide)]; exact h.late l i
  · intro i; rw [hκ 2 _ _ (by decide)]; exact h.marks i
end BOX
