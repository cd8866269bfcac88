section BOX2
variable {w : PS} {y : LY} {h h' : AH}
def yBx (y : LY) (n a e c : Nat) : LY := (yB y, yt0 y, yT y, (fun i => if i = n then a else yX y i), yK y, (fun j => if j = 1 then e else yE y j), (fun j => if j = 1 then c else yC y j), fun x => if x < a then yR y x else if x = a then (0, 1, n) else if x = a + 1 then (0, 5, 2 * n) else if x = a + 2 then (1, 8, 2 * n) else (2, 3, 0))
/-- the heap after a box was made and put into its list -/
theorem Rep.box (hr : Rep y w h) {n e c : Nat} {F : F3} {f : Nat → Option Nat} (hnB : nB w.2.2.1 = n) (hn : n ≤ 1000)
    (hF00 : ∀ k, F 0 0 k = w.2.2.1 0 0 k) (hF10 : F 0 1 0 = w.2.2.1 0 1 0 + 1) (hF12 : F 0 1 2 = nI (n + 1)) (hFo : ∀ c i k, c ≠ 0 → ¬ (c = 5 ∧ i / 2 = n) → F c i k = w.2.2.1 c i k) (hFe : F 1 n 1 = 0)
    (hA : w.2.2.2.1 8 (2 * n) = fun _ => 0)
    (hc : c ≠ 0 ∧ n < c) (hf : ∀ i, i < n → f i = some (adO y 1 i)) (hfn : f n = some h.1)
    (he : (yB y ≤ e ∧ e < h.1 ∧ yR y e = (2, 3, 0) ∧ h'.1 = h.1 + 3) ∨ (e = h.1 + 3 ∧ h'.1 = h.1 + 4))
    (he2 : h'.2.2 e = some (.inl (3, c, rfA f))) (hb : h'.2.2 (yB y + 13) = some (.inr (0, [.int (w.2.2.1 0 1 0 + 1), .ref e, .int (nI (n + 1))])))
    (ho : h'.2.2 h.1 = some (.inr (1, [.ref (h.1 + 1), .null])))
    (ht : h'.2.2 (h.1 + 1) = some (.inr (5, [.int (F 5 (2 * n) 0), .int (F 5 (2 * n) 1), .int (F 5 (2 * n) 2), .int (F 5 (2 * n) 3), .int (F 5 (2 * n) 4), .int (F 5 (2 * n) 5), .ref (h.1 + 2), .int (F 5 (2 * n) 7), .int (F 5 (2 * n) 8), .int (F 5 (2 * n) 9), .int (F 5 (2 * n) 10), .int (F 5 (2 * n) 11), .int (F 5 (2 * n) 12)])))
    (har : h'.2.2 (h.1 + 2) = some (.inl (0, 9, .inl fun _ => 0)))
    (hfr : ∀ x, x < h.1 → x ≠ e → x ≠ yB y + 13 → h'.2.2 x = h.2.2 x) (hz : ∀ x, h'.1 ≤ x → h'.2.2 x = none) :
    Rep (yBx y n h.1 e c) (h'.1 - yB y, h'.2.1, F, w.2.2.2.1, w.2.2.2.2) h' := by
  have hB : yB y ≤ h.1 := by have := hr.1.1; omega
  have hob := hr.2.1 0 1 rfl
  have hblt : yB y + 13 < h.1 := hr.lt hob.1
  have nB' : nB F = n + 1 := by
    show (F 0 1 2).toNatClampNeg = n + 1
    rw [hF12, nI_clamp (by omega)]
  have nT' : nT F = nT w.2.2.1 := by
    show (F 0 0 2).toNatClampNeg = _
    rw [hF00]
    rfl
  have f1' : ∀ b, F 1 b 1 = w.2.2.1 1 b 1 := fun b => hFo 1 b 1 (by omega) (by omega)
  have eO : ∀ c9 i, ¬ (c9 = 1 ∧ i = n) → ¬ (c9 = 5 ∧ i = 2 * n) → adO (yBx y n h.1 e c) c9 i = adO y c9 i := fun c9 i h4 h5 => by
    unfold adO
    split <;> first | rfl | skip
    · show (if i = n then h.1 else yX y i) = yX y i
      rw [if_neg (fun q => h4 ⟨rfl, q⟩)]
    · by_cases q : i % 2 = 0
      · rw [if_pos q, if_pos q]
        show (if i / 2 = n then h.1 else yX y (i / 2)) + 1 = _
        rw [if_neg (fun u => h5 ⟨rfl, by omega⟩)]
      · rw [if_neg q, if_neg q]
        rfl
  have eA : ∀ k i, ¬ (k = 8 ∧ i = 2 * n) → adA (yBx y n h.1 e c) k i = adA y k i := fun k i h4 => by
    unfold adA
    split <;> first | rfl | skip
    by_cases q : i % 2 = 0
    · rw [if_pos q, if_pos q]
      show (if i / 2 = n then h.1 else yX y (i / 2)) + 2 = _
      rw [if_neg (fun u => h4 ⟨rfl, by omega⟩)]
    · rw [if_neg q, if_neg q]
      rfl
  have c0' : yC (yBx y n h.1 e c) 0 = yC y 0 := rfl
  have c1' : yC (yBx y n h.1 e c) 1 = c := rfl
  have e0' : yE (yBx y n h.1 e c) 0 = yE y 0 := rfl
  have e1' : yE (yBx y n h.1 e c) 1 = e := rfl
  have t0' : yt0 (yBx y n h.1 e c) = yt0 y := rfl
  have eA9 : ∀ i, adA (yBx y n h.1 e c) 9 i = adA y 9 i := fun i => eA 9 i (by omega)
  have rR : ∀ x, x < h.1 → yR (yBx y n h.1 e c) x = yR y x := fun x hx => if_pos hx
  have rN : ∀ x, ¬ x < h.1 → yR (yBx y n h.1 e c) x = if x = h.1 then (0, 1, n) else if x = h.1 + 1 then (0, 5, 2 * n) else if x = h.1 + 2 then (1, 8, 2 * n) else (2, 3, 0) := fun x hx => if_neg hx
  have eB : adO (yBx y n h.1 e c) 1 n = h.1 := if_pos rfl
  have eT : adO (yBx y n h.1 e c) 5 (2 * n) = h.1 + 1 := by
    show (if 2 * n % 2 = 0 then (if 2 * n / 2 = n then h.1 else yX y (2 * n / 2)) + 1 else _) = _
    rw [if_pos (by omega), if_pos (by omega)]
  have eW : adA (yBx y n h.1 e c) 8 (2 * n) = h.1 + 2 := by
    show (if 2 * n % 2 = 0 then (if 2 * n / 2 = n then h.1 else yX y (2 * n / 2)) + 2 else _) = _
    rw [if_pos (by omega), if_pos (by omega)]
  have hun : ∀ x u, h.2.2 x ≠ none → yR y x = u → ¬ (u = (0, 0, 1) ∨ u = (2, 3, 0)) → h'.2.2 x = h.2.2 x ∧ yR (yBx y n h.1 e c) x = u := by
    intro x u hx hu hn1
    have hlt : x < h.1 := by
      rcases Nat.lt_or_ge x h.1 with q | q
      · exact q
      · exact absurd (hr.1.2.2.1 x q) hx
    refine ⟨hfr x hlt (fun q => ?_) (fun q => ?_), by rw [rR x hlt]; exact hu⟩
    · rcases he with q1 | q1
      · exact hn1 (Or.inr (by rw [← hu, q]; exact q1.2.2.1))
      · omega
    · exact hn1 (Or.inl (by rw [← hu, q]; exact hob.2))
  refine hr.grow (fun u => u = (0, 0, 1) ∨ u = (2, 3, 0)) ?_ rfl hz rfl rfl ?_ hun ?_ ?_ (by simp) (by simp) (by simp) rfl ?_ ?_
  · show h'.1 = yB y + (h'.1 - yB y)
    omega
  · intro x q hq
    rcases Nat.lt_or_ge x (yB y) with q1 | q1
    · have h1 : h.2.2 x = none := by
        cases hx : h.2.2 x with
        | none => rfl
        | some v => have := hr.1.2.2.2.2 x v hx; omega
      rw [hfr x (by omega) (by omega) (by omega), h1] at hq; cases hq
    · exact q1
  · intro c9 i9 hv
    dsimp only at hv ⊢
    have hc9 := val_c hv
    rw [nT', nB', f1'] at hc9
    rcases hc9 with ⟨rfl, hi⟩ | ⟨rfl, hi⟩ | ⟨rfl, rfl⟩ | ⟨rfl, rfl⟩ | ⟨rfl, hi⟩ | ⟨rfl, hi, hi2⟩ | ⟨rfl, rfl⟩ | ⟨rfl, rfl⟩
    · by_cases q : i9 = 1
      · subst q
        refine Or.inr ⟨?_, ?_⟩
        · refine hb.trans ?_
          simp only [fds, c1', e1', if_neg hc.1, hF10, hF12]
        · refine (rR _ hblt).trans hob.2
      · have : i9 = 0 := by omega
        subst this
        refine Or.inl ⟨rfl, rfl, ?_, by simp⟩
        simp only [fds, c0', e0', t0', hF00]
    · by_cases q : i9 = n
      · subst q
        refine Or.inr ⟨?_, ?_⟩
        · rw [eB, ho]
          simp only [fds, eT, hFe, if_true]
        · rw [eB, rN _ (by omega), if_pos rfl]
      · refine Or.inl ⟨decide_eq_true (show i9 < nB w.2.2.1 by omega), eO 1 i9 (by omega) (by omega), ?_, by simp⟩
        simp only [fds, f1', eO 5 (2 * i9) (by omega) (by omega), eO 5 (2 * i9 + 1) (by omega) (by omega)]
    · refine Or.inl ⟨rfl, rfl, ?_, by simp⟩
      simp only [fds, eA 1 0 (by omega), hFo 2 0 _ (by omega) (by omega)]
    · refine Or.inl ⟨rfl, rfl, ?_, by simp⟩
      simp only [fds, eA 0 0 (by omega), hFo 3 0 _ (by omega) (by omega), eO 0 0 (by omega) (by omega)]
      rfl
    · refine Or.inl ⟨decide_eq_true hi, eO 4 i9 (by omega) (by omega), ?_, by simp⟩
      simp only [fds, eA 5 i9 (by omega), eA 6 i9 (by omega), eA 7 i9 (by omega), hFo 4 i9 _ (by omega) (show ¬ (4 = 5 ∧ i9 / 2 = n) by omega)]
    · by_cases q : i9 / 2 = n
      · have hev : i9 % 2 = 0 := by
          rcases hi2 with u | u
          · exact u
          · rw [q, ← f1', hFe] at u; exact absurd rfl u
        have e2 : i9 = 2 * n := by omega
        subst e2
        refine Or.inr ⟨?_, ?_⟩
        · rw [eT, ht]
          simp only [fds, eW]
        · rw [eT, rN _ (by omega), if_neg (by omega), if_pos rfl]
      · refine Or.inl ⟨?_, eO 5 i9 (by omega) (by omega), ?_, by simp⟩
        · have : i9 / 2 < nB w.2.2.1 := by omega
          simp [val, this, hi2]
        · simp only [fds, eA 8 i9 (by omega), hFo 5 i9 _ (by omega) (show ¬ (5 = 5 ∧ i9 / 2 = n) by omega)]
    · refine Or.inl ⟨rfl, rfl, ?_, by simp⟩
      simp only [fds, eA 2 0 (by omega), hFo 6 0 _ (by omega) (by omega), eO 3 0 (by omega) (by omega), eO 0 1 (by omega) (by omega), eO 2 0 (by omega) (by omega)]
    · refine Or.inl ⟨rfl, rfl, ?_, by simp⟩
      simp only [fds, eA9, hFo 7 0 _ (by omega) (by omega)]
  · intro k9 i9 hv
    dsimp only at hv ⊢
    have hc9 := valA_c hv
    rw [nT', nB', f1'] at hc9
    rcases hc9 with ⟨rfl, rfl⟩ | ⟨rfl, rfl⟩ | ⟨rfl, rfl⟩ | ⟨rfl, hi⟩ | ⟨rfl, hi⟩ | ⟨hk, hi⟩ | ⟨rfl, hi, hi2⟩ | ⟨rfl, hi⟩
    · exact Or.inl ⟨rfl, rfl, rfl, by simp⟩
    · exact Or.inl ⟨rfl, rfl, rfl, by simp⟩
    · exact Or.inl ⟨rfl, rfl, rfl, by simp⟩
    · exact Or.inl ⟨decide_eq_true hi, rfl, rfl, by simp⟩
    · exact Or.inl ⟨decide_eq_true hi, rfl, rfl, by simp⟩
    · refine Or.inl ⟨?_, eA k9 i9 (by omega), rfl, by simp⟩
      rcases hk with rfl | rfl | rfl <;> exact decide_eq_true hi
    · by_cases q : i9 / 2 = n
      · have hev : i9 % 2 = 0 := by
          rcases hi2 with u | u
          · exact u
          · rw [q, ← f1', hFe] at u; exact absurd rfl u
        have e2 : i9 = 2 * n := by omega
        subst e2
        refine Or.inr ?_
        rw [eW, har, rN _ (by omega), if_neg (by omega), if_neg (by omega), if_pos rfl, hA]
        exact ⟨rfl, rfl⟩
      · refine Or.inl ⟨?_, eA 8 i9 (by omega), rfl, by simp⟩
        have : i9 / 2 < nB w.2.2.1 := by omega
        simp [valA, val, this, hi2]
    · refine Or.inl ⟨?_, eA9 i9, rfl, by simp⟩
      simpa [valA] using hi
  · exact lst_keep (fun u => u = (0, 0, 1) ∨ u = (2, 3, 0)) hr.2.2.2.2.2.2.1 (hF00 2) rfl rfl (fun i _ => eO 4 i (by omega) (by omega)) hun (by simp)
  · have hcl : (F 0 1 2).toNatClampNeg = n + 1 := by rw [hF12, nI_clamp (by omega)]
    refine ⟨?_, ?_, Or.inr ⟨?_, f, he2, fun i hi => ?_⟩⟩
    · show (F 0 1 2).toNatClampNeg ≤ c
      rw [hcl]; omega
    · show F 0 1 2 = nI (F 0 1 2).toNatClampNeg
      rw [hcl, hF12]
    · show yR (yBx y n h.1 e c) e = (2, 3, 0)
      rcases he with q | q
      · rw [rR _ q.2.1]; exact q.2.2.1
      · rw [rN _ (by omega), if_neg (by omega), if_neg (by omega), if_neg (by omega)]
    · have hi : i < (F 0 1 2).toNatClampNeg := hi
      rw [hcl] at hi
      show f i = some (adO (yBx y n h.1 e c) 1 i)
      by_cases q : i = n
      · subst q
        rw [hfn, eB]
      · rw [hf i (by omega), eO 1 i (by omega) (by omega)]
end BOX2
