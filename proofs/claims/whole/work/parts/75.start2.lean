/-! the start as a day: what class and reference hold of it -/
def sg0 : SG := fun x _ q => if x = 9 ∧ q = 3 then 1 else 0
def ka0 : SG := fun a _ _ => if a = 1 ∨ a = 2 then 1 else 0
def mu0 : SG := fun a b _ => if a = 2 ∧ b = 2 then 1 else 0
def F00 : F3 := fun c i k => if c = 5 ∧ k = 5 then nI (dueS sg0 i) else if c = 5 ∧ k = 9 then -1 else 0
def A00 : F3 := fun _ _ _ => 0
def RL0 : List (Nat × Nat × Nat) := [(0, 6, 0), (0, 3, 0), (1, 0, 0), (0, 0, 0), (2, 0, 0), (1, 3, 0), (1, 3, 1), (1, 3, 2), (1, 3, 3), (2, 1, 0), (1, 4, 0), (1, 4, 1), (1, 4, 2), (0, 0, 1), (0, 2, 0), (1, 1, 0), (1, 2, 0), (0, 7, 0), (1, 9, 6), (1, 9, 7), (1, 9, 8), (1, 9, 9), (1, 9, 10), (1, 9, 11), (1, 9, 12), (1, 9, 13), (1, 9, 14), (1, 9, 15), (1, 9, 16), (1, 9, 17), (1, 9, 18), (1, 9, 19), (1, 9, 20), (1, 9, 21), (1, 9, 22), (1, 9, 23), (1, 9, 24), (1, 9, 25), (1, 9, 26), (1, 9, 27), (1, 9, 28), (1, 9, 29), (1, 9, 30), (1, 9, 31), (1, 9, 37), (2, 4, 0)]
def y00 (B t0 : Nat) : LY := (B, t0, (fun _ => 0), (fun _ => 0), (fun _ => 0), (fun _ => 0), (fun _ => 0), fun x => RL0.getD (x - B) (9, 9, 9))
theorem CR_0 : CR sg0 ka0 F00 A00 := by
  refine ⟨⟨by decide, by decide, fun b => by simp [sg0]⟩, rfl, rfl, rfl, rfl, rfl, fun _ => rfl, fun _ => rfl, fun _ => rfl, fun _ => rfl, fun _ _ => rfl, fun _ _ => rfl, fun _ _ => rfl, fun _ => rfl, ?_, ?_, ?_, ?_, ?_, fun _ => rfl, fun _ => rfl, fun _ => rfl, fun _ => rfl, fun _ => rfl, fun _ => rfl, fun _ => rfl, fun _ _ => rfl, fun _ => rfl, fun _ _ => rfl, fun _ _ => rfl, fun _ => rfl⟩
  · intro w; simp [F00, fromS, sg0]; rfl
  · intro w; simp [F00, wfromS, sg0]; rfl
  · intro w; simp [F00, readyS, sg0]; rfl
  · intro w; simp [F00, toS, sg0]; rfl
  · intro w; simp [F00, wtoS, sg0]; rfl
theorem MR_0 : MR sg0 mu0 F00 A00 := by
  refine ⟨rfl, rfl, rfl, rfl, rfl, rfl, fun _ => rfl, fun _ => rfl, fun _ => rfl, fun _ _ _ => rfl, fun _ _ _ => rfl, fun _ _ _ => rfl, fun _ => rfl, fun _ => rfl, fun _ => rfl, fun _ => rfl, fun _ => rfl, fun _ => rfl, fun _ => rfl, fun _ => rfl, fun _ => rfl, fun _ => rfl, fun _ => rfl, fun _ => rfl, fun _ => rfl, fun _ => rfl, fun _ _ => rfl, fun _ _ _ => rfl, fun _ _ _ => rfl, fun _ _ _ => rfl, fun _ => rfl, fun _ => rfl, rfl, rfl, rfl, rfl, rfl, fun _ => rfl⟩
theorem HM_0 : HM mu0 := fun i => by simp [mu0]
theorem sg0_n {x y q : Nat} (h : ¬ (x = 9 ∧ q = 3)) : sg0 x y q = 0 := if_neg h
theorem WF_0 : WF sg0 := by
  have z : ∀ x y q, x ≠ 9 → sg0 x y q = 0 := fun x y q h => sg0_n (fun e => h e.1)
  have z9 : ∀ y q, q ≠ 3 → sg0 9 y q = 0 := fun y q h => sg0_n (fun e => h e.2)
  refine ⟨?_, ?_, ?_, ?_, ?_, ?_, ?_, ?_, ?_, ?_, ?_, ?_, ?_, ?_, ?_, ?_, ?_, ?_, ?_, ?_, ?_, ?_, ?_, ?_, ?_⟩
  · rw [z _ _ _ (by decide)]; decide
  · rw [z _ _ _ (by decide)]; decide
  · rw [z _ _ _ (by decide)]; decide
  · rw [z _ _ _ (by decide)]; decide
  · rw [z _ _ _ (by decide)]; decide
  · intro i; rw [z _ _ _ (by decide)]; decide
  · intro i; rw [z _ _ _ (by decide)]; decide
  · intro i; rw [z _ _ _ (by decide)]; decide
  · intro i; rw [z _ _ _ (by decide)]; decide
  · intro i j; rw [z _ _ _ (by decide)]; decide
  · intro i j; rw [z _ _ _ (by decide)]; decide
  · intro a b c _ h; rw [z 3 _ _ (by decide)] at h; omega
  · intro a b _; rw [z 7 _ _ (by decide)]; rfl
  · intro b; simp only [z 8 _ _ (by decide)]; decide
  · intro w
    rw [z9 w 0 (by decide), z9 w 2 (by decide), z9 w 4 (by decide), z9 w 5 (by decide)]
    have : sg0 9 w 3 = 1 := if_pos ⟨rfl, rfl⟩
    rw [this]; decide
  · intro w i h; rw [z9 w 2 (by decide)] at h; omega
  · intro w j; rw [z 10 _ _ (by decide)]; decide
  · intro w i h; rw [z9 w 2 (by decide)] at h; omega
  · intro w h; rw [z9 w 2 (by decide)] at h; omega
  · intro w h; exact absurd (z9 w 5 (by decide)) h
  · intro i; rw [z _ _ _ (by decide)]; decide
  · intro t _
    refine ⟨z _ _ _ (by decide), z _ _ _ (by decide), z _ _ _ (by decide), fun k => ⟨z _ _ _ (by decide), z _ _ _ (by decide), ?_⟩⟩
    rw [z _ _ _ (by decide)]; rfl
  · intro w _
    refine ⟨z9 w 0 (by decide), z9 w 2 (by decide), z9 w 5 (by decide), fun h => ?_, fun j => z _ _ _ (by decide)⟩
    rw [z 0 _ _ (by decide)] at h; omega
  · intro b _; exact z _ _ _ (by decide)
  · intro b _; exact z _ _ _ (by decide)
theorem INV3_0 : INV3 sg0 := by
  have z : ∀ x y q, x ≠ 9 → sg0 x y q = 0 := fun x y q h => sg0_n (fun e => h e.1)
  refine ⟨⟨WF_0, fun w _ h => ?_, fun w _ => ⟨rfl, rfl⟩⟩, fun t k h => ?_, fun b h => ?_⟩
  · rw [z 0 _ _ (by decide)] at h; omega
  · rw [z 3 _ _ (by decide)] at h; omega
  · rw [z 0 _ _ (by decide)] at h; omega
section START2
variable {B t0 : Nat}
theorem y00_R (i : Nat) : yR (y00 B t0) (B + i) = RL0.getD i (9, 9, 9) := by
  show RL0.getD (B + i - B) (9, 9, 9) = _
  rw [Nat.add_sub_cancel_left]
theorem Rep_0 (ht : t0 < B) : Rep (y00 B t0) (46, 4322, F00, A00, 0) (hl B 4322 (E3 B t0)) := by
  have at_ : ∀ i, (hl B 4322 (E3 B t0)).2.2 (B + i) = (E3 B t0)[i]? := fun i => hl_at i
  have len : (E3 B t0).length = 46 := rfl
  refine ⟨⟨rfl, rfl, fun a ha => ?_, ht, fun a e ha => ?_⟩, fun c i hv => ?_, fun k i hv => ?_, ⟨?_, ?_⟩, ⟨?_, ?_⟩, ⟨?_, fun _ => 0, ?_, rfl⟩, ?_, ?_⟩
  · have ha : B + (E3 B t0).length ≤ a := ha
    rw [len] at ha
    show (if a < B then none else (E3 B t0)[a - B]?) = none
    rw [if_neg (by omega), List.getElem?_eq_none (by rw [len]; omega)]
  · have ha : (if a < B then none else (E3 B t0)[a - B]?) = some e := ha
    by_cases q : a < B
    · rw [if_pos q] at ha; cases ha
    · show B ≤ a
      omega
  · dsimp only at hv ⊢
    have n1 : nT F00 = 0 := rfl
    have n2 : nB F00 = 0 := rfl
    rcases val_c hv with ⟨rfl, hi⟩ | ⟨rfl, hi⟩ | ⟨rfl, rfl⟩ | ⟨rfl, rfl⟩ | ⟨rfl, hi⟩ | ⟨rfl, hi, hi2⟩ | ⟨rfl, rfl⟩ | ⟨rfl, rfl⟩
    · have : i = 0 ∨ i = 1 := by omega
      rcases this with rfl | rfl
      · exact ⟨at_ 3, y00_R 3⟩
      · exact ⟨at_ 13, y00_R 13⟩
    · rw [n2] at hi; omega
    · exact ⟨at_ 14, y00_R 14⟩
    · exact ⟨at_ 1, y00_R 1⟩
    · rw [n1] at hi; omega
    · rw [n2] at hi; omega
    · exact ⟨at_ 0, y00_R 0⟩
    · exact ⟨at_ 17, y00_R 17⟩
  · dsimp only at hv ⊢
    have n1 : nT F00 = 0 := rfl
    have n2 : nB F00 = 0 := rfl
    rcases valA_c hv with ⟨rfl, rfl⟩ | ⟨rfl, rfl⟩ | ⟨rfl, rfl⟩ | ⟨rfl, hi⟩ | ⟨rfl, hi⟩ | ⟨hk, hi⟩ | ⟨rfl, hi, hi2⟩ | ⟨rfl, hi⟩
    · exact ⟨at_ 2, y00_R 2⟩
    · exact ⟨at_ 15, y00_R 15⟩
    · exact ⟨at_ 16, y00_R 16⟩
    · have : i = 0 ∨ i = 1 ∨ i = 2 ∨ i = 3 := by omega
      rcases this with rfl | rfl | rfl | rfl
      · exact ⟨at_ 5, y00_R 5⟩
      · exact ⟨at_ 6, y00_R 6⟩
      · exact ⟨at_ 7, y00_R 7⟩
      · exact ⟨at_ 8, y00_R 8⟩
    · have : i = 0 ∨ i = 1 ∨ i = 2 := by omega
      rcases this with rfl | rfl | rfl
      · exact ⟨at_ 10, y00_R 10⟩
      · exact ⟨at_ 11, y00_R 11⟩
      · exact ⟨at_ 12, y00_R 12⟩
    · rw [n1] at hi; omega
    · rw [n2] at hi; omega
    · have : i = 6 ∨ i = 7 ∨ i = 8 ∨ i = 9 ∨ i = 10 ∨ i = 11 ∨ i = 12 ∨ i = 13 ∨ i = 14 ∨ i = 15 ∨ i = 16 ∨ i = 17 ∨ i = 18 ∨ i = 19 ∨ i = 20 ∨ i = 21 ∨ i = 22 ∨ i = 23 ∨ i = 24 ∨ i = 25 ∨ i = 26 ∨ i = 27 ∨ i = 28 ∨ i = 29 ∨ i = 30 ∨ i = 31 ∨ i = 37 := by omega
      rcases this with rfl | rfl | rfl | rfl | rfl | rfl | rfl | rfl | rfl | rfl | rfl | rfl | rfl | rfl | rfl | rfl | rfl | rfl | rfl | rfl | rfl | rfl | rfl | rfl | rfl | rfl | rfl
      · exact ⟨at_ 18, y00_R 18⟩
      · exact ⟨at_ 19, y00_R 19⟩
      · exact ⟨at_ 20, y00_R 20⟩
      · exact ⟨at_ 21, y00_R 21⟩
      · exact ⟨at_ 22, y00_R 22⟩
      · exact ⟨at_ 23, y00_R 23⟩
      · exact ⟨at_ 24, y00_R 24⟩
      · exact ⟨at_ 25, y00_R 25⟩
      · exact ⟨at_ 26, y00_R 26⟩
      · exact ⟨at_ 27, y00_R 27⟩
      · exact ⟨at_ 28, y00_R 28⟩
      · exact ⟨at_ 29, y00_R 29⟩
      · exact ⟨at_ 30, y00_R 30⟩
      · exact ⟨at_ 31, y00_R 31⟩
      · exact ⟨at_ 32, y00_R 32⟩
      · exact ⟨at_ 33, y00_R 33⟩
      · exact ⟨at_ 34, y00_R 34⟩
      · exact ⟨at_ 35, y00_R 35⟩
      · exact ⟨at_ 36, y00_R 36⟩
      · exact ⟨at_ 37, y00_R 37⟩
      · exact ⟨at_ 38, y00_R 38⟩
      · exact ⟨at_ 39, y00_R 39⟩
      · exact ⟨at_ 40, y00_R 40⟩
      · exact ⟨at_ 41, y00_R 41⟩
      · exact ⟨at_ 42, y00_R 42⟩
      · exact ⟨at_ 43, y00_R 43⟩
      · exact ⟨at_ 44, y00_R 44⟩
  · exact at_ 4
  · exact y00_R 4
  · exact at_ 9
  · exact y00_R 9
  · exact y00_R 45
  · exact at_ 45
  · exact ⟨Nat.le_refl _, rfl, Or.inl rfl⟩
  · exact ⟨Nat.le_refl _, rfl, Or.inl rfl⟩
theorem Wd_0 : Wd sg0 ka0 sg0 mu0 (46, 4322, 0) (46, 4322, F00, A00, 0) := ⟨⟨rfl, rfl, rfl⟩, CR_0, MR_0⟩
end START2
