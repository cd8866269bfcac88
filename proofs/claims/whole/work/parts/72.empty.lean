/-! empty: a way back begins -/
def emS (σ : SG) (b r : Nat) : SG := us (us σ 8 b 6 1) 8 b 7 r
def kEm (κ : SG) (b : Nat) : SG := fun p l x => if p = 3 ∧ l = 2 * b + 1 ∧ x = 0 then 0 else κ p l x
def FEm (F : F3) (s κ : SG) (b : Nat) : F3 := fun c i k => if c = 1 ∧ i = b ∧ k = 1 then 1 else if c = 5 ∧ i = 2 * b + 1 then FT s κ i k else F c i k
section EMPTY
variable {σ κ τ μ : SG} {z : BB} {w : PS} {y : LY} {h h' : AH}
theorem em_k {b r x y q : Nat} (h8 : x ≠ 8) : emS σ b r x y q = σ x y q := by
  unfold emS
  rw [us_ne h8, us_ne h8]
theorem em_n {b r y q : Nat} (hy : y ≠ b) : emS σ b r 8 y q = σ 8 y q := by
  simp [emS, us, hy]
theorem em_o {b r y q : Nat} (h6 : q ≠ 6) (h7 : q ≠ 7) : emS σ b r 8 y q = σ 8 y q := by
  simp [emS, us, h6, h7]
theorem em_6 {b r : Nat} : emS σ b r 8 b 6 = 1 := by simp [emS, us]
theorem em_7 {b r : Nat} : emS σ b r 8 b 7 = r := by simp [emS, us]
theorem em_srt {b r t k : Nat} : srt (emS σ b r) t k = srt σ t k := by
  unfold srt
  rw [em_k (by decide), em_k (by decide), em_k (by decide)]
theorem em_w {b r i : Nat} : fromS (emS σ b r) i = fromS σ i ∧ wfromS (emS σ b r) i = wfromS σ i ∧ toS (emS σ b r) i = toS σ i ∧ wtoS (emS σ b r) i = wtoS σ i ∧ dueS (emS σ b r) i = dueS σ i := by
  unfold fromS wfromS toS wtoS dueS
  rw [em_o (by decide) (by decide), em_o (by decide) (by decide), em_o (by decide) (by decide), em_o (by decide) (by decide), em_o (by decide) (by decide)]
  exact ⟨rfl, rfl, rfl, rfl, rfl⟩
theorem em_r {b r i : Nat} (hi : i ≠ 2 * b + 1) : readyS (emS σ b r) i = readyS σ i := by
  unfold readyS
  rw [em_o (by decide) (by decide)]
  by_cases q : i % 2 = 0
  · rw [if_pos q, if_pos q]
  · rw [if_neg q, if_neg q, em_n (by omega)]
theorem em_beg {b r i : Nat} (hi : i ≠ 2 * b + 1) : begS (emS σ b r) i = begS σ i := by
  have e := em_w (σ := σ) (b := b) (r := r) (i := i)
  unfold begS
  rw [e.1, e.2.1, em_r hi, em_k (by decide)]
theorem INV3_em (hv : INV3 σ) {b r : Nat} (hb : b < σ 0 3 0) (h6 : σ 8 b 6 = 0) (hr : r ≤ 1439) : INV3 (emS σ b r) := by
  have wf := hv.1.1
  have k : ∀ x y q, x ≠ 8 → emS σ b r x y q = σ x y q := fun x y q a => em_k a
  have frW : σ 9 (2 * b + 1) 0 = 0 ∧ σ 9 (2 * b + 1) 2 = 0 ∧ σ 9 (2 * b + 1) 5 = 0 := by
    have := wf.freshW (2 * b + 1) (Or.inr ⟨by omega, by rw [show (2 * b + 1) / 2 = b by omega]; exact h6⟩)
    exact ⟨this.1, this.2.1, this.2.2.1⟩
  have wf' : WF (emS σ b r) := by
    refine ⟨?_, ?_, ?_, ?_, ?_, ?_, ?_, ?_, ?_, ?_, ?_, ?_, ?_, ?_, ?_, ?_, ?_, ?_, ?_, ?_, ?_, ?_, ?_, ?_, ?_⟩
    · rw [k 0 _ _ (by decide)]; exact wf.now
    · rw [k 0 _ _ (by decide)]; exact wf.st
    · rw [k 0 _ _ (by decide)]; exact wf.tr
    · rw [k 0 _ _ (by decide)]; exact wf.bx
    · rw [k 0 _ _ (by decide)]; exact wf.ca
    · intro i; rw [k 1 _ _ (by decide)]; exact wf.sort i
    · intro i; rw [k 2 _ _ (by decide)]; exact wf.room i
    · intro i; rw [k 3 _ _ (by decide)]; exact wf.stops i
    · intro i; rw [k 4 _ _ (by decide)]; exact wf.canc i
    · intro i j; rw [k 5 _ _ (by decide)]; exact wf.sta i j
    · intro i j; rw [k 6 _ _ (by decide)]; exact wf.min i j
    · intro a c d; rw [k 3 _ _ (by decide), k 6 _ _ (by decide), k 6 _ _ (by decide)]; exact wf.inc a c d
    · intro a c; rw [k 3 _ _ (by decide), k 7 _ _ (by decide)]; exact wf.load a c
    · intro b'
      have hx := wf.box b'
      by_cases q : b' = b
      · subst q
        rw [em_6, em_7, em_o (by decide) (by decide), em_o (by decide) (by decide), em_o (by decide) (by decide), em_o (by decide) (by decide), em_o (by decide) (by decide), em_o (by decide) (by decide)]
        omega
      · simp only [em_n q]; exact hx
    · intro i; simp only [k 9 _ _ (by decide)]; exact wf.way i
    · intro i j hj
      rw [k 9 _ _ (by decide)] at hj
      simp only [k 10 _ _ (by decide), k 3 _ _ (by decide), k 0 _ _ (by decide)]
      exact wf.leg i j hj
    · intro i j; rw [k 10 _ _ (by decide)]; exact wf.legb i j
    · intro i j hj
      rw [k 9 _ _ (by decide)] at hj
      simp only [k 10 _ _ (by decide), k 5 _ _ (by decide), k 6 _ _ (by decide), em_srt, (em_w (σ := σ) (b := b) (r := r) (i := i)).2.2.1]
      exact wf.chain i j hj
    · intro i hi
      rw [k 9 _ _ (by decide)] at hi
      have e := em_w (σ := σ) (b := b) (r := r) (i := i)
      rw [e.1, e.2.2.1]
      exact wf.ft i hi
    · intro i hi
      rw [k 9 _ _ (by decide)] at hi ⊢
      have q : i ≠ 2 * b + 1 := fun q => hi (by rw [q]; exact frW.2.2)
      rw [wf.there i hi]
      unfold thereS
      rw [k 9 _ _ (by decide), em_beg q, em_srt, k 10 _ _ (by decide), k 10 _ _ (by decide)]
    · intro i; rw [k 11 _ _ (by decide)]; exact wf.days i
    · intro t ht
      rw [k 0 _ _ (by decide)] at ht
      have f := wf.freshT t ht
      rw [k 3 _ _ (by decide), k 4 _ _ (by decide), k 2 _ _ (by decide)]
      refine ⟨f.1, f.2.1, f.2.2.1, fun j => ?_⟩
      rw [k 5 _ _ (by decide), k 6 _ _ (by decide), k 7 _ _ (by decide)]
      exact f.2.2.2 j
    · intro i hi
      simp only [k 0 _ _ (by decide), k 9 _ _ (by decide), k 10 _ _ (by decide)] at hi ⊢
      refine wf.freshW i ?_
      rcases hi with q | ⟨q1, q2⟩
      · exact Or.inl q
      · by_cases q : i / 2 = b
        · rw [q, em_6] at q2; cases q2
        · rw [em_n q] at q2; exact Or.inr ⟨q1, q2⟩
    · intro b' hb2
      rw [k 0 _ _ (by decide)] at hb2
      rw [em_n (by omega)]
      exact wf.freshB b' hb2
    · intro b' hb2
      by_cases q : b' = b
      · subst q; rw [em_6] at hb2; cases hb2
      · rw [em_n q] at hb2 ⊢; exact wf.rb b' hb2
  refine ⟨⟨wf', fun i h3 hi => ?_, fun i hi => ?_⟩, fun t j hj => ?_, fun b' hb2 => ?_⟩
  · have e := em_w (σ := σ) (b := b) (r := r) (i := i)
    simp only [k 9 _ _ (by decide), k 0 _ _ (by decide)] at h3 hi ⊢
    simp only [e.1, e.2.2.1, em_srt, k 10 _ _ (by decide), k 5 _ _ (by decide)]
    exact hv.1.2.1 i h3 hi
  · simp only [k 9 _ _ (by decide)] at hi ⊢
    exact hv.1.2.2 i hi
  · rw [k 3 _ _ (by decide)] at hj
    rw [k 5 _ _ (by decide), k 0 _ _ (by decide)]
    exact hv.2.1 t j hj
  · rw [k 0 _ _ (by decide)] at hb2 ⊢
    rw [em_o (by decide) (by decide), em_o (by decide) (by decide)]
    exact hv.2.2 b' hb2
theorem FEm_o {F : F3} {s κ : SG} {b c i k : Nat} (h1 : ¬ (c = 1 ∧ i = b)) (h5 : ¬ (c = 5 ∧ i = 2 * b + 1)) : FEm F s κ b c i k = F c i k := by
  unfold FEm
  rw [if_neg (fun q => h1 ⟨q.1, q.2.1⟩), if_neg h5]
theorem FEm_5 {F : F3} {s κ : SG} {b k : Nat} : FEm F s κ b 5 (2 * b + 1) k = FT s κ (2 * b + 1) k := by
  unfold FEm
  rw [if_neg (by omega), if_pos ⟨rfl, rfl⟩]
theorem FEm_1 {F : F3} {s κ : SG} {b : Nat} : FEm F s κ b 1 b 1 = 1 := if_pos ⟨rfl, rfl, rfl⟩
theorem CR_em {F A : F3} {b r : Nat} (hc : CR σ κ F A) (inv : INV3 (emS σ b r)) : CR (emS σ b r) (kEm κ b) (FEm F (emS σ b r) (kEm κ b) b) A := by
  have wf' := inv.1.1
  refine CR_way (fun i => i = 2 * b + 1) hc ⟨wf'.tr, wf'.bx, fun b => (wf'.box b).2.2.2.2.2.2.1⟩ (fun x y q a b c => em_k b) ⟨em_k (by decide), em_k (by decide), em_k (by decide), em_k (by decide)⟩ (fun c i k h0 h1 h5 => FEm_o (fun q => h1 q.1) (fun q => h5 q.1)) (FEm_o (by omega) (by omega)) ?_ (fun b' => ?_) (fun i hi k => ?_) (fun i hi => ⟨fun k => FEm_o (by omega) (fun q => hi q.2), ?_, fun q => em_k (by decide), ?_⟩) (fun a l x ha => ?_)
  · rw [FEm_o (by omega) (by omega), em_k (by decide)]; exact hc.bx
  · by_cases q : b' = b
    · subst q
      rw [FEm_1, em_6]; rfl
    · rw [FEm_o (by omega) (by omega), em_n q]; exact hc.emp b'
  · subst hi; exact FEm_5
  · have e := em_w (σ := σ) (b := b) (r := r) (i := i)
    exact ⟨e.1, e.2.1, em_r hi, e.2.2.1, e.2.2.2.1, e.2.2.2.2⟩
  · unfold kEm
    rw [if_neg (fun q => hi q.2.1)]
  · unfold kEm
    rw [if_neg (fun q => ha q.1)]
def yEm (y : LY) (b a : Nat) : LY := (yB y, yt0 y, yT y, yX y, (fun i => if i = b then a else yK y i), yE y, yC y, fun x => if x < a then yR y x else if x = a then (0, 5, 2 * b + 1) else (1, 8, 2 * b + 1))
/-- the heap after a way back was made -/
theorem Rep.emp (hr : Rep y w h) {b : Nat} {F : F3} (hb : b < nB w.2.2.1) (he0 : w.2.2.1 1 b 1 = 0)
    (hFo : ∀ c i k, ¬ (c = 1 ∧ i = b) → ¬ (c = 5 ∧ i = 2 * b + 1) → F c i k = w.2.2.1 c i k) (hFe : F 1 b 1 = 1)
    (hA : w.2.2.2.1 8 (2 * b + 1) = fun _ => 0) (h1 : h'.1 = h.1 + 2)
    (hbo : h'.2.2 (adO y 1 b) = some (.inr (1, [.ref (adO y 5 (2 * b)), .ref h.1])))
    (ht : h'.2.2 h.1 = some (.inr (5, [.int (F 5 (2 * b + 1) 0), .int (F 5 (2 * b + 1) 1), .int (F 5 (2 * b + 1) 2), .int (F 5 (2 * b + 1) 3), .int (F 5 (2 * b + 1) 4), .int (F 5 (2 * b + 1) 5), .ref (h.1 + 1), .int (F 5 (2 * b + 1) 7), .int (F 5 (2 * b + 1) 8), .int (F 5 (2 * b + 1) 9), .int (F 5 (2 * b + 1) 10), .int (F 5 (2 * b + 1) 11), .int (F 5 (2 * b + 1) 12)])))
    (har : h'.2.2 (h.1 + 1) = some (.inl (0, 9, .inl fun _ => 0)))
    (hfr : ∀ x, x < h.1 → x ≠ adO y 1 b → h'.2.2 x = h.2.2 x) (hz : ∀ x, h'.1 ≤ x → h'.2.2 x = none) :
    Rep (yEm y b h.1) (h'.1 - yB y, h'.2.1, F, w.2.2.2.1, w.2.2.2.2) h' := by
  have hB : yB y ≤ h.1 := by have := hr.1.1; omega
  have hob := hr.2.1 1 b (decide_eq_true hb)
  have hblt : adO y 1 b < h.1 := hr.lt hob.1
  have hbB : yB y ≤ adO y 1 b := hr.1.2.2.2.2 _ _ hob.1
  have nB' : nB F = nB w.2.2.1 := by
    show (F 0 1 2).toNatClampNeg = _
    rw [hFo 0 1 2 (by omega) (by omega)]
    rfl
  have nT' : nT F = nT w.2.2.1 := by
    show (F 0 0 2).toNatClampNeg = _
    rw [hFo 0 0 2 (by omega) (by omega)]
    rfl
  have eO : ∀ c9 i, ¬ (c9 = 5 ∧ i = 2 * b + 1) → adO (yEm y b h.1) c9 i = adO y c9 i := fun c9 i h5 => by
    unfold adO
    split <;> first | rfl | skip
    by_cases q : i % 2 = 0
    · rw [if_pos q, if_pos q]
      rfl
    · rw [if_neg q, if_neg q]
      show (if i / 2 = b then h.1 else yK y (i / 2)) = _
      rw [if_neg (fun u => h5 ⟨rfl, by omega⟩)]
  have eA : ∀ k i, ¬ (k = 8 ∧ i = 2 * b + 1) → adA (yEm y b h.1) k i = adA y k i := fun k i h4 => by
    unfold adA
    split <;> first | rfl | skip
    by_cases q : i % 2 = 0
    · rw [if_pos q, if_pos q]
      rfl
    · rw [if_neg q, if_neg q]
      show (if i / 2 = b then h.1 else yK y (i / 2)) + 1 = _
      rw [if_neg (fun u => h4 ⟨rfl, by omega⟩)]
  have c' : ∀ j, yC (yEm y b h.1) j = yC y j := fun _ => rfl
  have e' : ∀ j, yE (yEm y b h.1) j = yE y j := fun _ => rfl
  have t0' : yt0 (yEm y b h.1) = yt0 y := rfl
  have eA9 : ∀ i, adA (yEm y b h.1) 9 i = adA y 9 i := fun i => eA 9 i (by omega)
  have rR : ∀ x, x < h.1 → yR (yEm y b h.1) x = yR y x := fun x hx => if_pos hx
  have rN : ∀ x, ¬ x < h.1 → yR (yEm y b h.1) x = if x = h.1 then (0, 5, 2 * b + 1) else (1, 8, 2 * b + 1) := fun x hx => if_neg hx
  have eT : adO (yEm y b h.1) 5 (2 * b + 1) = h.1 := by
    show (if (2 * b + 1) % 2 = 0 then _ else (if (2 * b + 1) / 2 = b then h.1 else yK y ((2 * b + 1) / 2))) = _
    rw [if_neg (by omega), if_pos (by omega)]
  have eW : adA (yEm y b h.1) 8 (2 * b + 1) = h.1 + 1 := by
    show (if (2 * b + 1) % 2 = 0 then _ else (if (2 * b + 1) / 2 = b then h.1 else yK y ((2 * b + 1) / 2)) + 1) = _
    rw [if_neg (by omega), if_pos (by omega)]
  have hun : ∀ x u, h.2.2 x ≠ none → yR y x = u → ¬ (u = (0, 1, b)) → h'.2.2 x = h.2.2 x ∧ yR (yEm y b h.1) x = u := by
    intro x u hx hu hn1
    have hlt : x < h.1 := by
      rcases Nat.lt_or_ge x h.1 with q | q
      · exact q
      · exact absurd (hr.1.2.2.1 x q) hx
    refine ⟨hfr x hlt (fun q => hn1 (by rw [← hu, q]; exact hob.2)), by rw [rR x hlt]; exact hu⟩
  refine hr.grow (fun u => u = (0, 1, b)) ?_ rfl hz rfl rfl ?_ hun ?_ ?_ (by simp) (by simp) (by simp) rfl ?_ ?_
  · show h'.1 = yB y + (h'.1 - yB y)
    omega
  · intro x q hq
    rcases Nat.lt_or_ge x (yB y) with q1 | q1
    · have h1 : h.2.2 x = none := by
        cases hx : h.2.2 x with
        | none => rfl
        | some v => have := hr.1.2.2.2.2 x v hx; omega
      rw [hfr x (by omega) (by omega), h1] at hq; cases hq
    · exact q1
  · intro c9 i9 hv
    dsimp only at hv ⊢
    have hc9 := val_c hv
    rw [nT', nB'] at hc9
    rcases hc9 with ⟨rfl, hi⟩ | ⟨rfl, hi⟩ | ⟨rfl, rfl⟩ | ⟨rfl, rfl⟩ | ⟨rfl, hi⟩ | ⟨rfl, hi, hi2⟩ | ⟨rfl, rfl⟩ | ⟨rfl, rfl⟩
    · refine Or.inl ⟨decide_eq_true hi, rfl, ?_, by simp⟩
      simp only [fds, c', e', t0', hFo 0 i9 _ (show ¬ (0 = 1 ∧ i9 = b) by omega) (show ¬ (0 = 5 ∧ i9 = 2 * b + 1) by omega)]
    · by_cases q : i9 = b
      · subst q
        refine Or.inr ⟨?_, ?_⟩
        · rw [eO 1 i9 (by omega), hbo]
          simp only [fds, eT, hFe, eO 5 (2 * i9) (by omega), if_neg (show ¬ (1 : Int32) = 0 by decide)]
        · rw [eO 1 i9 (by omega), rR _ hblt]
          exact hob.2
      · refine Or.inl ⟨decide_eq_true hi, eO 1 i9 (by omega), ?_, by simp [q]⟩
        simp only [fds, hFo 1 i9 _ (show ¬ (1 = 1 ∧ i9 = b) by omega) (show ¬ (1 = 5 ∧ i9 = 2 * b + 1) by omega), eO 5 (2 * i9) (by omega), eO 5 (2 * i9 + 1) (by omega)]
    · refine Or.inl ⟨rfl, rfl, ?_, by simp⟩
      simp only [fds, eA 1 0 (by omega), hFo 2 0 _ (show ¬ (2 = 1 ∧ 0 = b) by omega) (show ¬ (2 = 5 ∧ 0 = 2 * b + 1) by omega)]
    · refine Or.inl ⟨rfl, rfl, ?_, by simp⟩
      simp only [fds, eA 0 0 (by omega), hFo 3 0 _ (show ¬ (3 = 1 ∧ 0 = b) by omega) (show ¬ (3 = 5 ∧ 0 = 2 * b + 1) by omega), eO 0 0 (by omega)]
      rfl
    · refine Or.inl ⟨decide_eq_true hi, eO 4 i9 (by omega), ?_, by simp⟩
      simp only [fds, eA 5 i9 (by omega), eA 6 i9 (by omega), eA 7 i9 (by omega), hFo 4 i9 _ (show ¬ (4 = 1 ∧ i9 = b) by omega) (show ¬ (4 = 5 ∧ i9 = 2 * b + 1) by omega)]
    · by_cases q : i9 = 2 * b + 1
      · subst q
        refine Or.inr ⟨?_, ?_⟩
        · rw [eT, ht]
          simp only [fds, eW]
        · rw [eT, rN _ (by omega), if_pos rfl]
      · refine Or.inl ⟨?_, eO 5 i9 (by omega), ?_, by simp⟩
        · have : i9 % 2 = 0 ∨ w.2.2.1 1 (i9 / 2) 1 ≠ 0 := by
            rcases hi2 with u | u
            · exact Or.inl u
            · by_cases q2 : i9 / 2 = b
              · exact Or.inl (by omega)
              · rw [hFo 1 _ 1 (by omega) (by omega)] at u; exact Or.inr u
          simp [val, hi, this]
        · simp only [fds, eA 8 i9 (by omega), hFo 5 i9 _ (show ¬ (5 = 1 ∧ i9 = b) by omega) (show ¬ (5 = 5 ∧ i9 = 2 * b + 1) by omega)]
    · refine Or.inl ⟨rfl, rfl, ?_, by simp⟩
      simp only [fds, eA 2 0 (by omega), hFo 6 0 _ (show ¬ (6 = 1 ∧ 0 = b) by omega) (show ¬ (6 = 5 ∧ 0 = 2 * b + 1) by omega), eO 3 0 (by omega), eO 0 1 (by omega), eO 2 0 (by omega)]
    · refine Or.inl ⟨rfl, rfl, ?_, by simp⟩
      simp only [fds, eA9, hFo 7 0 _ (show ¬ (7 = 1 ∧ 0 = b) by omega) (show ¬ (7 = 5 ∧ 0 = 2 * b + 1) by omega)]
  · intro k9 i9 hv
    dsimp only at hv ⊢
    have hc9 := valA_c hv
    rw [nT', nB'] at hc9
    rcases hc9 with ⟨rfl, rfl⟩ | ⟨rfl, rfl⟩ | ⟨rfl, rfl⟩ | ⟨rfl, hi⟩ | ⟨rfl, hi⟩ | ⟨hk, hi⟩ | ⟨rfl, hi, hi2⟩ | ⟨rfl, hi⟩
    · exact Or.inl ⟨rfl, rfl, rfl, by simp⟩
    · exact Or.inl ⟨rfl, rfl, rfl, by simp⟩
    · exact Or.inl ⟨rfl, rfl, rfl, by simp⟩
    · exact Or.inl ⟨decide_eq_true hi, rfl, rfl, by simp⟩
    · exact Or.inl ⟨decide_eq_true hi, rfl, rfl, by simp⟩
    · refine Or.inl ⟨?_, eA k9 i9 (by omega), rfl, by simp⟩
      rcases hk with rfl | rfl | rfl <;> exact decide_eq_true hi
    · by_cases q : i9 = 2 * b + 1
      · subst q
        refine Or.inr ?_
        rw [eW, har, rN _ (by omega), if_neg (by omega), hA]
        exact ⟨rfl, rfl⟩
      · refine Or.inl ⟨?_, eA 8 i9 (by omega), rfl, by simp⟩
        have : i9 % 2 = 0 ∨ w.2.2.1 1 (i9 / 2) 1 ≠ 0 := by
          rcases hi2 with u | u
          · exact Or.inl u
          · by_cases q2 : i9 / 2 = b
            · exact Or.inl (by omega)
            · rw [hFo 1 _ 1 (by omega) (by omega)] at u; exact Or.inr u
        simp [valA, val, hi, this]
    · refine Or.inl ⟨?_, eA9 i9, rfl, by simp⟩
      simpa [valA] using hi
  · exact lst_keep (fun u => u = (0, 1, b)) hr.2.2.2.2.2.2.1 (hFo 0 0 2 (by omega) (by omega)) rfl rfl (fun i _ => eO 4 i (by omega)) hun (by simp)
  · exact lst_keep (fun u => u = (0, 1, b)) hr.2.2.2.2.2.2.2 (hFo 0 1 2 (by omega) (by omega)) rfl rfl (fun i _ => eO 1 i (by omega)) hun (by simp)
end EMPTY
