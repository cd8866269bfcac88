section TRAIN2
variable {σ κ τ μ : SG} {z : BB} {w : PS} {y : LY} {h h' : AH}
theorem siz_eq {t0 mi a e : Nat} {q n : Int32} (hb : h.2.2 a = some (.inr (0, [.int q, .ref e, .int n]))) : vc a 0 (f_Jx4a65c_size_8abf5 t0 mi a) h = some (.inl n, h) := by
  rw [vc_eq hb]
  unfold f_Jx4a65c_size_8abf5
  rw [bnd_eq (gI_eq hb rfl)]
  rfl
/-- the heap after a train was made and put into its list -/
theorem Rep.train (hr : Rep y w h) {n e c : Nat} {r : Int32} {f : Nat → Option Nat} (hnT : nT w.2.2.1 = n) (hn : n ≤ 1000)
    (hF4 : w.2.2.1 4 n 4 = 0 ∧ w.2.2.1 4 n 5 = 0) (hA : ∀ k, k = 5 ∨ k = 6 ∨ k = 7 → w.2.2.2.1 k n = fun _ => 0)
    (hc : c ≠ 0 ∧ n < c) (hf : ∀ i, i < n → f i = some (adO y 4 i)) (hfn : f n = some h.1)
    (he : (yB y ≤ e ∧ e < h.1 ∧ yR y e = (2, 2, 0) ∧ h'.1 = h.1 + 4) ∨ (e = h.1 + 4 ∧ h'.1 = h.1 + 5))
    (he2 : h'.2.2 e = some (.inl (3, c, rfA f))) (hb : h'.2.2 (yB y + 3) = some (.inr (0, [.int (w.2.2.1 0 0 0 + 1), .ref e, .int (nI (n + 1))])))
    (ho : h'.2.2 h.1 = some (.inr (4, [.int r, .ref (h.1 + 1), .ref (h.1 + 2), .ref (h.1 + 3), .int 0, .int 0])))
    (har : ∀ x, h.1 + 1 ≤ x → x < h.1 + 4 → h'.2.2 x = some (.inl (0, 10, .inl fun _ => 0)))
    (hfr : ∀ x, x < h.1 → x ≠ e → x ≠ yB y + 3 → h'.2.2 x = h.2.2 x) (hz : ∀ x, h'.1 ≤ x → h'.2.2 x = none) :
    Rep (yTr y n h.1 e c) (h'.1 - yB y, h'.2.1, (FTr w.2.2.1 n r), w.2.2.2.1, w.2.2.2.2) h' := by
  have hB : yB y ≤ h.1 := by have := hr.1.1; omega
  have hob := hr.2.1 0 0 rfl
  have hblt : yB y + 3 < h.1 := hr.lt hob.1
  have hF' : ∀ c9 i k, ¬ (c9 = 0 ∧ i = 0) → ¬ (c9 = 4 ∧ i = n) → (FTr w.2.2.1 n r) c9 i k = w.2.2.1 c9 i k := fun c9 i k h1 h2 => by
    unfold FTr
    rw [u3_ne h2, u3_ne h1, u3_ne h1]
  have nT' : nT (FTr w.2.2.1 n r) = n + 1 := by
    show ((FTr w.2.2.1 n r) 0 0 2).toNatClampNeg = n + 1
    have : (FTr w.2.2.1 n r) 0 0 2 = nI (n + 1) := by simp [FTr, u3]
    rw [this, nI_clamp (by omega)]
  have nB' : nB (FTr w.2.2.1 n r) = nB w.2.2.1 := by
    show ((FTr w.2.2.1 n r) 0 1 2).toNatClampNeg = _
    rw [hF' 0 1 2 (by omega) (by omega)]
    rfl
  have f1' : ∀ b, (FTr w.2.2.1 n r) 1 b 1 = w.2.2.1 1 b 1 := fun b => hF' 1 b 1 (by omega) (by omega)
  have eO : ∀ c9 i, ¬ (c9 = 4 ∧ i = n) → adO (yTr y n h.1 e c) c9 i = adO y c9 i := fun c9 i h4 => by
    unfold adO
    split <;> first | rfl | skip
    show (if i = n then h.1 else yT y i) = yT y i
    rw [if_neg (fun q => h4 ⟨rfl, q⟩)]
  have eA : ∀ k i, ¬ ((k = 5 ∨ k = 6 ∨ k = 7) ∧ i = n) → adA (yTr y n h.1 e c) k i = adA y k i := fun k i h4 => by
    unfold adA
    split <;> first | rfl | skip
    all_goals
      show (if i = n then h.1 else yT y i) + _ = yT y i + _
      rw [if_neg (fun q => h4 ⟨by omega, q⟩)]
  have c0' : yC (yTr y n h.1 e c) 0 = c := rfl
  have c1' : yC (yTr y n h.1 e c) 1 = yC y 1 := rfl
  have e0' : yE (yTr y n h.1 e c) 0 = e := rfl
  have e1' : yE (yTr y n h.1 e c) 1 = yE y 1 := rfl
  have t0' : yt0 (yTr y n h.1 e c) = yt0 y := rfl
  have eO5 : ∀ i, adO (yTr y n h.1 e c) 5 i = adO y 5 i := fun i => eO 5 i (by omega)
  have eA9 : ∀ i, adA (yTr y n h.1 e c) 9 i = adA y 9 i := fun i => eA 9 i (by omega)
  have rR : ∀ x, x < h.1 → yR (yTr y n h.1 e c) x = yR y x := fun x hx => if_pos hx
  have rN : ∀ x, ¬ x < h.1 → yR (yTr y n h.1 e c) x = if x = h.1 then (0, 4, n) else if x = h.1 + 1 then (1, 5, n) else if x = h.1 + 2 then (1, 6, n) else if x = h.1 + 3 then (1, 7, n) else (2, 2, 0) := fun x hx => if_neg hx
  have hun : ∀ x u, h.2.2 x ≠ none → yR y x = u → ¬ (u = (0, 0, 0) ∨ u = (2, 2, 0)) → h'.2.2 x = h.2.2 x ∧ yR (yTr y n h.1 e c) x = u := by
    intro x u hx hu hn1
    have hlt : x < h.1 := by
      rcases Nat.lt_or_ge x h.1 with q | q
      · exact q
      · exact absurd (hr.1.2.2.1 x q) hx
    refine ⟨hfr x hlt (fun q => ?_) (fun q => ?_), by rw [rR x hlt]; exact hu⟩
    · rcases he with q1 | q1
      · exact hn1 (Or.inr (by rw [← hu, q]; exact q1.2.2.1))
      · omega
    · exact hn1 (Or.inl (by rw [← hu, q]; exact hob.2))
  refine hr.grow (fun u => u = (0, 0, 0) ∨ u = (2, 2, 0)) ?_ rfl hz rfl rfl ?_ hun ?_ ?_ (by simp) (by simp) (by simp) rfl ?_ ?_
  · show h'.1 = yB y + (h'.1 - yB y)
    omega
  · intro x q hq
    rcases Nat.lt_or_ge x (yB y) with q1 | q1
    · have h1 : h.2.2 x = none := by
        cases hx : h.2.2 x with
        | none => rfl
        | some v => have := hr.1.2.2.2.2 x v hx; omega
      rw [hfr x (by omega) (by omega) (by omega), h1] at hq; cases hq
    · exact q1
  · intro c9 i9 hv
    dsimp only at hv ⊢
    have hc9 := val_c hv
    rw [nT', nB', f1'] at hc9
    rcases hc9 with ⟨rfl, hi⟩ | ⟨rfl, hi⟩ | ⟨rfl, rfl⟩ | ⟨rfl, rfl⟩ | ⟨rfl, hi⟩ | ⟨rfl, hi, hi2⟩ | ⟨rfl, rfl⟩ | ⟨rfl, rfl⟩
    · by_cases q : i9 = 0
      · subst q
        refine Or.inr ⟨?_, ?_⟩
        · refine hb.trans ?_
          simp only [fds, c0', e0', if_neg hc.1]
          simp [FTr, u3]
        · refine (rR _ hblt).trans hob.2
      · have : i9 = 1 := by omega
        subst this
        refine Or.inl ⟨rfl, rfl, ?_, by simp⟩
        simp only [fds, c1', e1', t0']
        simp [FTr, u3]
    · refine Or.inl ⟨decide_eq_true hi, eO 1 i9 (by omega), ?_, by simp⟩
      simp only [fds, eO5, f1']
    · refine Or.inl ⟨rfl, rfl, ?_, by simp⟩
      simp only [fds, eA 1 0 (by omega), hF' 2 0 _ (by omega) (by omega)]
    · refine Or.inl ⟨rfl, rfl, ?_, by simp⟩
      simp only [fds, eA 0 0 (by omega), hF' 3 0 _ (by omega) (by omega), eO 0 0 (by omega)]
      rfl
    · by_cases q : i9 = n
      · subst q
        have e4 : adO (yTr y i9 h.1 e c) 4 i9 = h.1 := if_pos rfl
        refine Or.inr ⟨?_, ?_⟩
        · rw [e4, ho]
          have eT : ∀ d, (yT (yTr y i9 h.1 e c) i9) + d = h.1 + d := fun d => by show (if i9 = i9 then h.1 else _) + d = _; rw [if_pos rfl]
          have e5 : adA (yTr y i9 h.1 e c) 5 i9 = h.1 + 1 := eT 1
          have e6 : adA (yTr y i9 h.1 e c) 6 i9 = h.1 + 2 := eT 2
          have e7 : adA (yTr y i9 h.1 e c) 7 i9 = h.1 + 3 := eT 3
          simp only [fds, e5, e6, e7]
          simp [FTr, u3, hF4]
        · rw [e4, rN _ (by omega), if_pos rfl]
      · refine Or.inl ⟨decide_eq_true (show i9 < nT w.2.2.1 by omega), eO 4 i9 (by omega), ?_, by simp⟩
        simp only [fds, eA 5 i9 (by omega), eA 6 i9 (by omega), eA 7 i9 (by omega), hF' 4 i9 _ (by omega) (show ¬ (4 = 4 ∧ i9 = n) by omega)]
    · refine Or.inl ⟨?_, eO 5 i9 (by omega), ?_, by simp⟩
      · simp [val, hi, hi2]
      · simp only [fds, eA 8 i9 (by omega), hF' 5 i9 _ (by omega) (by omega)]
    · refine Or.inl ⟨rfl, rfl, ?_, by simp⟩
      simp only [fds, eA 2 0 (by omega), hF' 6 0 _ (by omega) (by omega), eO 3 0 (by omega), eO 0 1 (by omega), eO 2 0 (by omega)]
    · refine Or.inl ⟨rfl, rfl, ?_, by simp⟩
      simp only [fds, eA9, hF' 7 0 _ (by omega) (by omega)]
  · intro k9 i9 hv
    dsimp only at hv ⊢
    have hc9 := valA_c hv
    rw [nT', nB', f1'] at hc9
    rcases hc9 with ⟨rfl, rfl⟩ | ⟨rfl, rfl⟩ | ⟨rfl, rfl⟩ | ⟨rfl, hi⟩ | ⟨rfl, hi⟩ | ⟨hk, hi⟩ | ⟨rfl, hi, hi2⟩ | ⟨rfl, hi⟩
    · exact Or.inl ⟨rfl, rfl, rfl, by simp⟩
    · exact Or.inl ⟨rfl, rfl, rfl, by simp⟩
    · exact Or.inl ⟨rfl, rfl, rfl, by simp⟩
    · exact Or.inl ⟨decide_eq_true hi, rfl, rfl, by simp⟩
    · exact Or.inl ⟨decide_eq_true hi, rfl, rfl, by simp⟩
    · by_cases q : i9 = n
      · subst q
        have eT : ∀ d, (yT (yTr y i9 h.1 e c) i9) + d = h.1 + d := fun d => by show (if i9 = i9 then h.1 else _) + d = _; rw [if_pos rfl]
        refine Or.inr ?_
        have hA9 := hA k9 hk
        rcases hk with rfl | rfl | rfl
        · have e5 : adA (yTr y i9 h.1 e c) 5 i9 = h.1 + 1 := eT 1
          rw [e5, har _ (by omega) (by omega), rN _ (by omega), if_neg (by omega), if_pos rfl]
          rw [hA9]
          exact ⟨rfl, rfl⟩
        · have e5 : adA (yTr y i9 h.1 e c) 6 i9 = h.1 + 2 := eT 2
          rw [e5, har _ (by omega) (by omega), rN _ (by omega), if_neg (by omega), if_neg (by omega), if_pos rfl]
          rw [hA9]
          exact ⟨rfl, rfl⟩
        · have e5 : adA (yTr y i9 h.1 e c) 7 i9 = h.1 + 3 := eT 3
          rw [e5, har _ (by omega) (by omega), rN _ (by omega), if_neg (by omega), if_neg (by omega), if_neg (by omega), if_pos rfl]
          rw [hA9]
          exact ⟨rfl, rfl⟩
      · refine Or.inl ⟨?_, eA k9 i9 (fun z => q z.2), rfl, by simp⟩
        have : i9 < nT w.2.2.1 := by omega
        rcases hk with rfl | rfl | rfl <;> exact decide_eq_true this
    · refine Or.inl ⟨?_, eA 8 i9 (by omega), rfl, by simp⟩
      simp [valA, val, hi, hi2]
    · refine Or.inl ⟨?_, eA9 i9, rfl, by simp⟩
      simpa [valA] using hi
  · have e02 : (FTr w.2.2.1 n r) 0 0 2 = nI (n + 1) := by simp [FTr, u3]
    have hcl : ((FTr w.2.2.1 n r) 0 0 2).toNatClampNeg = n + 1 := by rw [e02, nI_clamp (by omega)]
    refine ⟨?_, ?_, Or.inr ⟨?_, f, he2, fun i hi => ?_⟩⟩
    · show ((FTr w.2.2.1 n r) 0 0 2).toNatClampNeg ≤ c
      rw [hcl]; omega
    · show (FTr w.2.2.1 n r) 0 0 2 = nI ((FTr w.2.2.1 n r) 0 0 2).toNatClampNeg
      rw [hcl, e02]
    · show yR (yTr y n h.1 e c) e = (2, 2, 0)
      rcases he with q | q
      · rw [rR _ q.2.1]; exact q.2.2.1
      · rw [rN _ (by omega), if_neg (by omega), if_neg (by omega), if_neg (by omega), if_neg (by omega)]
    · have hi : i < ((FTr w.2.2.1 n r) 0 0 2).toNatClampNeg := hi
      rw [hcl] at hi
      show f i = some (adO (yTr y n h.1 e c) 4 i)
      by_cases q : i = n
      · subst q
        rw [hfn]
        show _ = some (if i = i then h.1 else _)
        rw [if_pos rfl]
      · rw [hf i (by omega), eO 4 i (by omega)]
  · exact lst_keep (fun u => u = (0, 0, 0) ∨ u = (2, 2, 0)) hr.2.2.2.2.2.2.2 (hF' 0 1 2 (by omega) (by omega)) rfl rfl (fun i _ => eO 1 i (by omega)) hun (by simp)
end TRAIN2
