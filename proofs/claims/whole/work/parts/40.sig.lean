/-! the day as plain numbers; what the class's store and the reference's store hold of it -/
/-- numbers by kind, number, place: 0 counts (0 now, 1 stations, 2 trains, 3 boxes, 4 carriers), 1 sorting, 2 room, 3 stops, 4 cancelled, 5 a stop's station, 6 its minute, 7 a span's load, 8 a box (0 home 1 walk 2 ready 3 desk 4 walkThere 5 due 6 empty 7 readyBack), 9 a way 2b, 2b+1 (0 had 1 has 2 many 3 stands: station + 1, 4 since), 10 legs of a way (3i train, 3i+1 on, 3i+2 off), 11 days -/
abbrev SG : Type := Nat → Nat → Nat → Nat
def us (f : SG) (a b c : Nat) (v : Nat) : SG := fun x y z => if x = a ∧ y = b ∧ z = c then v else f x y z
theorem us_at {f : SG} {a b c v x y z : Nat} : us f a b c v x y z = if x = a ∧ y = b ∧ z = c then v else f x y z := rfl
abbrev sNow (g : SG) : Nat := g 0 0 0
abbrev sSt (g : SG) : Nat := g 0 1 0
abbrev sTr (g : SG) : Nat := g 0 2 0
abbrev sBx (g : SG) : Nat := g 0 3 0
abbrev sCa (g : SG) : Nat := g 0 4 0
theorem nI_lit (n : Nat) : (OfNat.ofNat n : Int32) = nI n := rfl
theorem m1_lt (n : Nat) (h : n < 2 ^ 31) : ¬ nI n = -1 := by
  intro e
  have h1 : (nI n).toInt = (-1 : Int32).toInt := by rw [e]
  rw [nI_toInt h] at h1
  have h2 : (-1 : Int32).toInt = -1 := rfl
  omega
theorem i_lt (a b : Int32) : a < b ↔ a.toInt < b.toInt := Int32.lt_iff_toInt_lt
theorem i_le (a b : Int32) : a ≤ b ↔ a.toInt ≤ b.toInt := Int32.le_iff_toInt_le
theorem i_eq (a b : Int32) : a = b ↔ a.toInt = b.toInt := Int32.toInt_inj.symm
/-- an int is a number, or below 0 -/
theorem i_or (x : Int32) : x < 0 ∨ ∃ n : Nat, n < 2 ^ 31 ∧ x = nI n := by
  by_cases h : x < 0
  · exact Or.inl h
  · exact Or.inr (nI_of h)
theorem oob_nI {i n : Nat} (h : i < n) (hn : n < 2 ^ 31) : oobB (nI i) n = false := by
  simp only [oobB, Bool.or_eq_false_iff, decide_eq_false_iff_not]
  exact ⟨nI_pos (by omega), by rw [nI_clamp (by omega)]; omega⟩
theorem nI_sub {a b : Nat} (h : b ≤ a) : nI a - nI b = nI (a - b) := pk_sub h
