/-! the heap as a plain store: ints by (class, number, field) and by (family of arrays, number, place); no addresses -/
abbrev F3 : Type := Nat → Nat → Nat → Int32
/-- cells and slots so far, the objects' ints, the arrays' ints, the law's own long -/
abbrev PS : Type := Nat × Nat × F3 × F3 × Int64
abbrev PM (α : Type) : Type := PS → Option ((α ⊕ String) × PS)
def u3 (f : F3) (a b c : Nat) (v : Int32) : F3 := fun x y z => if x = a ∧ y = b ∧ z = c then v else f x y z
/-- first own cell; the empty list's array; trains, boxes, trips back; the lists' arrays and their lengths; whose each address is -/
abbrev LY : Type := Nat × Nat × (Nat → Nat) × (Nat → Nat) × (Nat → Nat) × (Nat → Nat) × (Nat → Nat) × (Nat → Nat × Nat × Nat)
abbrev yB (y : LY) : Nat := y.1
abbrev yt0 (y : LY) : Nat := y.2.1
abbrev yT (y : LY) : Nat → Nat := y.2.2.1
abbrev yX (y : LY) : Nat → Nat := y.2.2.2.1
abbrev yK (y : LY) : Nat → Nat := y.2.2.2.2.1
abbrev yE (y : LY) : Nat → Nat := y.2.2.2.2.2.1
abbrev yC (y : LY) : Nat → Nat := y.2.2.2.2.2.2.1
abbrev yR (y : LY) : Nat → Nat × Nat × Nat := y.2.2.2.2.2.2.2
/-- objects: 0 lists (0 trains, 1 boxes), 1 Box, 2 Gang, 3 Network, 4 Train, 5 Trip (2i there, 2i+1 back), 6 LunchMarks, 7 the reference -/
def adO (y : LY) (c i : Nat) : Nat := match c with
  | 0 => if i = 0 then yB y + 3 else yB y + 13
  | 1 => yX y i
  | 2 => yB y + 14
  | 3 => yB y + 1
  | 4 => yT y i
  | 5 => if i % 2 = 0 then yX y (i / 2) + 1 else yK y (i / 2)
  | 6 => yB y
  | _ => yB y + 17
/-- int arrays: 0 sorting, 1 days, 2 marks, 3 earliest, 4 latest, 5 stations, 6 minutes, 7 loads of a train, 8 a trip's row, 9 the reference's by field -/
def adA (y : LY) (k i : Nat) : Nat := match k with
  | 0 => yB y + 2
  | 1 => yB y + 15
  | 2 => yB y + 16
  | 3 => yB y + 5 + i
  | 4 => yB y + 10 + i
  | 5 => yT y i + 1
  | 6 => yT y i + 2
  | 7 => yT y i + 3
  | 8 => if i % 2 = 0 then yX y (i / 2) + 2 else yK y (i / 2) + 1
  | _ => if i = 37 then yB y + 44 else yB y + 12 + i
def nT (F : F3) : Nat := (F 0 0 2).toNatClampNeg
def nB (F : F3) : Nat := (F 0 1 2).toNatClampNeg
def val (F : F3) (c i : Nat) : Bool := match c with
  | 0 => decide (i < 2)
  | 1 => decide (i < nB F)
  | 4 => decide (i < nT F)
  | 5 => decide (i / 2 < nB F) && (decide (i % 2 = 0) || decide (F 1 (i / 2) 1 ≠ 0))
  | 2 => decide (i = 0)
  | 3 => decide (i = 0)
  | 6 => decide (i = 0)
  | 7 => decide (i = 0)
  | _ => false
def valA (F : F3) (k i : Nat) : Bool := match k with
  | 0 => decide (i = 0)
  | 1 => decide (i = 0)
  | 2 => decide (i = 0)
  | 3 => decide (i < 4)
  | 4 => decide (i < 3)
  | 5 => val F 4 i
  | 6 => val F 4 i
  | 7 => val F 4 i
  | 8 => val F 5 i
  | 9 => decide (6 ≤ i) && decide (i < 32) || decide (i = 37)
  | _ => false
def kd (k i : Nat) : Nat := if k = 9 ∧ (i = 13 ∨ i = 21 ∨ i = 22 ∨ i = 23 ∨ i = 37) then 2 else 0
def ln (k i : Nat) : Nat := match k with
  | 0 => 10
  | 1 => 40
  | 2 => 60
  | 3 => 10
  | 4 => 10
  | 5 => 10
  | 6 => 10
  | 7 => 10
  | 8 => 9
  | _ => if i = 6 then 10 else if i = 7 ∨ i = 8 ∨ i = 13 then 16 else if i = 9 ∨ i = 10 ∨ i = 11 then 160 else if i = 12 then 40 else if i = 22 ∨ i = 23 ∨ i = 24 ∨ i = 25 ∨ i = 26 then 120 else if i = 27 ∨ i = 28 ∨ i = 29 then 360 else if i = 30 ∨ i = 31 then 640 else 60
def fds (y : LY) (F : F3) (c i : Nat) : List Value := match c with
  | 0 => [.int (F 0 i 0), .ref (if yC y i = 0 then yt0 y else yE y i), .int (F 0 i 2)]
  | 1 => [.ref (adO y 5 (2 * i)), if F 1 i 1 = 0 then .null else .ref (adO y 5 (2 * i + 1))]
  | 2 => [.ref (adA y 1 0), .int (F 2 i 1)]
  | 3 => [.ref (adA y 0 0), .int (F 3 i 1), .ref (adO y 0 0), .ref (yB y + 4), .ref (yB y + 9)]
  | 4 => [.int (F 4 i 0), .ref (adA y 5 i), .ref (adA y 6 i), .ref (adA y 7 i), .int (F 4 i 4), .int (F 4 i 5)]
  | 5 => [.int (F 5 i 0), .int (F 5 i 1), .int (F 5 i 2), .int (F 5 i 3), .int (F 5 i 4), .int (F 5 i 5), .ref (adA y 8 i), .int (F 5 i 7), .int (F 5 i 8), .int (F 5 i 9), .int (F 5 i 10), .int (F 5 i 11), .int (F 5 i 12)]
  | 6 => [.ref (adO y 3 0), .ref (adO y 0 1), .ref (adO y 2 0), .ref (adA y 2 0), .int (F 6 i 4)]
  | 7 => [.int (F 7 i 0), .int (F 7 i 1), .int (F 7 i 2), .int (F 7 i 3), .int (F 7 i 4), .int (F 7 i 5), .ref (adA y 9 6), .ref (adA y 9 7), .ref (adA y 9 8), .ref (adA y 9 9), .ref (adA y 9 10), .ref (adA y 9 11), .ref (adA y 9 12), .ref (adA y 9 13), .ref (adA y 9 14), .ref (adA y 9 15), .ref (adA y 9 16), .ref (adA y 9 17), .ref (adA y 9 18), .ref (adA y 9 19), .ref (adA y 9 20), .ref (adA y 9 21), .ref (adA y 9 22), .ref (adA y 9 23), .ref (adA y 9 24), .ref (adA y 9 25), .ref (adA y 9 26), .ref (adA y 9 27), .ref (adA y 9 28), .ref (adA y 9 29), .ref (adA y 9 30), .ref (adA y 9 31), .int (F 7 i 32), .int (F 7 i 33), .int (F 7 i 34), .int (F 7 i 35), .int (F 7 i 36), .ref (adA y 9 37)]
  | _ => []
def lstC (j : Nat) : Nat := if j = 0 then 4 else 1
abbrev rfA (f : Nat → Option Nat) : (Nat → Int32) ⊕ (Nat → Int64) ⊕ (Nat → UInt32) ⊕ (Nat → UInt64) ⊕ (Nat → Option Nat) := .inr (.inr (.inr (.inr f)))
/-- a list's own array -/
def lstOK (y : LY) (F : F3) (h : AH) (j : Nat) : Prop := (F 0 j 2).toNatClampNeg ≤ yC y j ∧ F 0 j 2 = nI (F 0 j 2).toNatClampNeg ∧ (yC y j = 0 ∨ (yR y (yE y j) = (2, 2 + j, 0) ∧ ∃ f : Nat → Option Nat, h.2.2 (yE y j) = some (.inl (3, yC y j, rfA f)) ∧ ∀ i, i < (F 0 j 2).toNatClampNeg → f i = some (adO y (lstC j) i)))
def Rep (y : LY) (w : PS) (h : AH) : Prop :=
  (h.1 = yB y + w.1 ∧ h.2.1 = w.2.1 ∧ (∀ a, h.1 ≤ a → h.2.2 a = none) ∧ yt0 y < yB y ∧ (∀ a e, h.2.2 a = some e → yB y ≤ a)) ∧
  (∀ c i, val w.2.2.1 c i = true → h.2.2 (adO y c i) = some (.inr (c, fds y w.2.2.1 c i)) ∧ yR y (adO y c i) = (0, c, i)) ∧
  (∀ k i, valA w.2.2.1 k i = true → h.2.2 (adA y k i) = some (.inl (kd k i, ln k i, .inl (w.2.2.2.1 k i))) ∧ yR y (adA y k i) = (1, k, i)) ∧
  (h.2.2 (yB y + 4) = some (.inl (4, 4, rfA (fun i => if i < 4 then some (yB y + 5 + i) else none))) ∧ yR y (yB y + 4) = (2, 0, 0)) ∧
  (h.2.2 (yB y + 9) = some (.inl (4, 3, rfA (fun i => if i < 3 then some (yB y + 10 + i) else none))) ∧ yR y (yB y + 9) = (2, 1, 0)) ∧
  (yR y (yB y + 45) = (2, 4, 0) ∧ ∃ f : Nat → Int64, h.2.2 (yB y + 45) = some (.inl (1, 1, .inr (.inl f))) ∧ f 0 = w.2.2.2.2) ∧
  (lstOK y w.2.2.1 h 0 ∧ lstOK y w.2.2.1 h 1)
def rlt {α β : Type} (r : α → β → Prop) (x : α ⊕ String) (z : β ⊕ String) : Prop := match x, z with
  | .inl a, .inl b => r a b
  | .inr E, .inr E' => E = E'
  | _, _ => False
/-- F does to the heap what P does to the store -/
def Lft {α β : Type} (y : LY) (r : α → β → Prop) (F : Mo α) (P : PM β) : Prop := ∀ (w : PS) (h : AH), Rep y w h → ∀ (z : β ⊕ String) (w' : PS), P w = some (z, w') → ∃ (x : α ⊕ String) (h' : AH), F h = some (x, h') ∧ rlt r x z ∧ Rep y w' h'
def pbnd {α β : Type} (m : PM α) (f : α → PM β) : PM β := fun w => match m w with
  | none => none
  | some (.inl a, w1) => f a w1
  | some (.inr E, w1) => some (.inr E, w1)
def prt {α : Type} (a : α) : PM α := fun w => some (.inl a, w)
def pflr {α : Type} : PM α := fun _ => none
def pthr {α : Type} (E : String) : PM α := fun w => some (.inr E, (w.1 + 1, w.2.1 + 6, w.2.2))
def prtZ (v : Int32) : PM Int32 := fun w => if v = 0 ∨ v = 1 then some (.inl v, w) else none
def pchk (c i : Nat) : PM Unit := fun w => if val w.2.2.1 c i = true then some (.inl (), w) else none
def pgI (c i k : Nat) : PM Int32 := fun w => if val w.2.2.1 c i = true then some (.inl (w.2.2.1 c i k), w) else none
def ppI (c i k : Nat) (v : Int32) : PM Unit := fun w => if val w.2.2.1 c i = true then some (.inl (), (w.1, w.2.1, u3 w.2.2.1 c i k v, w.2.2.2)) else none
def ppZ (c i k : Nat) (v : Int32) : PM Unit := fun w => if v = 0 ∨ v = 1 then ppI c i k v w else none
def pld (k i : Nat) (j : Int32) : PM Int32 := fun w => if valA w.2.2.1 k i = true ∧ oobB j (ln k i) = false then some (.inl (w.2.2.2.1 k i j.toNatClampNeg), w) else none
def pst (k i : Nat) (j : Int32) (v : Int32) : PM Unit := fun w => if valA w.2.2.1 k i = true ∧ oobB j (ln k i) = false then some (.inl (), (w.1, w.2.1, w.2.2.1, u3 w.2.2.2.1 k i j.toNatClampNeg v, w.2.2.2.2)) else none
def pstZ (k i : Nat) (j : Int32) (v : Int32) : PM Unit := fun w => if v = 0 ∨ v = 1 then pst k i j v w else none
def plen (k i : Nat) : PM Int32 := fun w => if valA w.2.2.1 k i = true then some (.inl (Int32.ofNat (ln k i)), w) else none
def pdivI (x z : Int32) : PM Int32 := fun w => if z = 0 then none else some (.inl (x / z), w)
def premI (x z : Int32) : PM Int32 := fun w => if z = 0 then none else some (.inl (x - x / z * z), w)
def pdivL (x z : Int64) : PM Int64 := fun w => if z = 0 then none else some (.inl (x / z), w)
def premL (x z : Int64) : PM Int64 := fun w => if z = 0 then none else some (.inl (x - x / z * z), w)
def pldS (L : Nat) (xs : Nat → Int32) (i : Int32) : PM Int32 := fun w => if oobB i L = false then some (.inl (xs i.toNatClampNeg), w) else none
def pgO (i : Nat) : PM (Option Nat) := fun w => if val w.2.2.1 1 i = true then some (.inl (if w.2.2.1 1 i 1 = 0 then none else some (2 * i + 1)), w) else none
def pgB (i : Nat) : PM Unit := fun w => if val w.2.2.1 1 i = true ∧ w.2.2.1 1 i 1 ≠ 0 then some (.inl (), w) else none
def prow (k : Nat) (i : Int32) : PM Unit := fun w => if oobB i (if k = 3 then 4 else 3) = false then some (.inl (), w) else none
def psiz (j : Nat) : PM Int32 := fun w => some (.inl (w.2.2.1 0 j 2), w)
def pget (j : Nat) (i : Int32) : PM Unit := fun w => if oobB i (w.2.2.1 0 j 2).toNatClampNeg = false then some (.inl (), w) else none
def pldO (i : Int32) : PM Int64 := fun w => if i = 0 then some (.inl w.2.2.2.2, w) else none
def pstO (i : Int32) (v : Int64) : PM Unit := fun w => if i = 0 then some (.inl (), (w.1, w.2.1, w.2.2.1, w.2.2.2.1, v)) else none
def pctc {α β : Type} (op : PM β) (f : β → PM α) (hd : String → PM α) : PM α := fun w => match op w with
  | none => none
  | some (.inl v, w1) => f v w1
  | some (.inr E, w1) => hd E w1
section LFT
variable {α β α' β' : Type} {y : LY} {r : α → β → Prop} {r' : α' → β' → Prop}
theorem Lft_flr {F : Mo α} : Lft y r F (pflr : PM β) := fun _ _ _ _ _ e => by cases e
theorem Lft_rt {a : α} {b : β} (h : r a b) : Lft y r (rt a) (prt b) := fun w h0 hr z w' e => by cases e; exact ⟨_, _, rfl, h, hr⟩
theorem Lft_rtZ {v : Int32} : Lft y Eq (rtZ v) (prtZ v) := fun w h0 hr z w' e => by
  unfold prtZ at e
  split at e
  · rename_i hv
    cases e
    exact ⟨.inl v, h0, by simp [rtZ, hv], rfl, hr⟩
  · cases e
theorem Lft_thr {E : String} : Lft y r (thr E : Mo α) (pthr E : PM β) := fun w h0 hr z w' e => by
  cases e
  refine ⟨_, _, rfl, rfl, ?_⟩
  obtain ⟨⟨a1, a2, a3, a4, a5⟩, b, c, d, e, f, g1, g2⟩ := hr
  exact ⟨⟨by show h0.1 + 1 = yB y + (w.1 + 1); omega, by show h0.2.1 + 6 = w.2.1 + 6; omega, fun a ha => a3 a (by have : h0.1 + 1 ≤ a := ha; omega), a4, a5⟩, b, c, d, e, f, g1, g2⟩
theorem Lft_bnd {m : Mo α'} {f : α' → Mo α} {p : PM β'} {q : β' → PM β} (h1 : Lft y r' m p) (h2 : ∀ a b, r' a b → Lft y r (f a) (q b)) : Lft y r (bnd m f) (pbnd p q) := by
  intro w h hr z w' e
  unfold pbnd at e
  cases hp : p w with
  | none => rw [hp] at e; cases e
  | some y1 =>
    rw [hp] at e
    obtain ⟨z1, w1⟩ := y1
    obtain ⟨x1, h3, e1, e2, e3⟩ := h1 w h hr z1 w1 hp
    cases z1 with
    | inl b =>
      cases x1 with
      | inl a =>
        obtain ⟨x2, h4, g1, g2, g3⟩ := h2 a b e2 w1 h3 e3 z w' e
        exact ⟨x2, h4, by unfold bnd; rw [e1]; exact g1, g2, g3⟩
      | inr E => cases e2
    | inr E' =>
      cases e
      cases x1 with
      | inl a => cases e2
      | inr E => exact ⟨.inr E, h3, by unfold bnd; rw [e1], e2, e3⟩
theorem Lft_if {cnd : Prop} [Decidable cnd] {F1 F2 : Mo α} {P1 P2 : PM β} (h1 : cnd → Lft y r F1 P1) (h2 : ¬ cnd → Lft y r F2 P2) : Lft y r (if cnd then F1 else F2) (if cnd then P1 else P2) := by
  by_cases hc : cnd
  · rw [if_pos hc, if_pos hc]; exact h1 hc
  · rw [if_neg hc, if_neg hc]; exact h2 hc
/-- an operation that reads alone -/
theorem Lft_rd {op : Mo α} {p : PM β} (h : ∀ (w : PS) (h0 : AH), Rep y w h0 → ∀ z w', p w = some (z, w') → w' = w ∧ ∃ b, z = .inl b ∧ ∃ a, op h0 = some (.inl a, h0) ∧ r a b) : Lft y r op p := by
  intro w h0 hr z w' e
  obtain ⟨rfl, b, rfl, a, e1, e2⟩ := h w h0 hr z w' e
  exact ⟨_, _, e1, e2, hr⟩
theorem Lft_gI {c i k : Nat} (hf : ∀ F : F3, (fds y F c i)[k]? = some (.int (F c i k))) : Lft y Eq (gI (adO y c i) c k) (pgI c i k) := by
  refine Lft_rd (fun w h0 hr z w' e => ?_)
  unfold pgI at e
  split at e
  · rename_i hv
    cases e
    refine ⟨rfl, _, rfl, _, ?_, rfl⟩
    simp [gI, fld, (hr.2.1 c i hv).1, hf]
  · cases e
theorem Lft_gA {c i k a : Nat} (hf : ∀ F : F3, (fds y F c i)[k]? = some (.ref a)) : Lft y (fun x (_ : Unit) => x = a) (gA' (adO y c i) c k) (pchk c i) := by
  refine Lft_rd (fun w h0 hr z w' e => ?_)
  unfold pchk at e
  split at e
  · rename_i hv
    cases e
    refine ⟨rfl, _, rfl, a, ?_, rfl⟩
    simp [gA', fld, (hr.2.1 c i hv).1, hf]
  · cases e
theorem Lft_isC {c i : Nat} : Lft y (fun (_ : Unit) (_ : Unit) => True) (isC (adO y c i) c) (pchk c i) := by
  refine Lft_rd (fun w h0 hr z w' e => ?_)
  unfold pchk at e
  split at e
  · rename_i hv
    cases e
    refine ⟨rfl, _, rfl, (), ?_, trivial⟩
    simp [isC, (hr.2.1 c i hv).1]
  · cases e
theorem Lft_gO {i : Nat} : Lft y (fun x (z : Option Nat) => x = z.map (adO y 5)) (gO (adO y 1 i) 1 1) (pgO i) := by
  refine Lft_rd (fun w h0 hr z w' e => ?_)
  unfold pgO at e
  split at e
  · rename_i hv
    cases e
    refine ⟨rfl, _, rfl, _, ?_, rfl⟩
    by_cases q : w.2.2.1 1 i 1 = 0 <;> simp [gO, fld, (hr.2.1 1 i hv).1, fds, q]
  · cases e
theorem Lft_gB {i : Nat} : Lft y (fun x (_ : Unit) => x = adO y 5 (2 * i + 1)) (gA' (adO y 1 i) 1 1) (pgB i) := by
  refine Lft_rd (fun w h0 hr z w' e => ?_)
  unfold pgB at e
  split at e
  · rename_i hv
    cases e
    refine ⟨rfl, _, rfl, _, ?_, rfl⟩
    simp [gA', fld, (hr.2.1 1 i hv.1).1, fds, hv.2]
  · cases e
theorem Lft_vc {c i : Nat} {F : Mo α} {P : PM β} (h : Lft y r F P) : Lft y r (vc (adO y c i) c F) (pbnd (pchk c i) fun _ => P) := by
  intro w h0 hr z w' e
  unfold pbnd pchk at e
  split at e
  · cases e
  · rename_i a w1 q
    split at q
    · rename_i hv
      cases q
      obtain ⟨x, h1, e1, e2, e3⟩ := h w h0 hr z w' e
      exact ⟨x, h1, by simp [vc, (hr.2.1 c i hv).1]; exact e1, e2, e3⟩
    · cases q
  · rename_i E w1 q
    split at q <;> cases q
theorem Lft_ld {k i : Nat} {j : Int32} {d : Nat} (hk : kd k i = d) : Lft y Eq (ldK d (adA y k i) j) (pld k i j) := by
  refine Lft_rd (fun w h0 hr z w' e => ?_)
  unfold pld at e
  split at e
  · rename_i hv
    cases e
    refine ⟨rfl, _, rfl, _, ?_, rfl⟩
    simp [ldK, (hr.2.2.1 k i hv.1).1, hk, hv.2]
  · cases e
theorem Lft_len {k i : Nat} : Lft y Eq (alen (adA y k i)) (plen k i) := by
  refine Lft_rd (fun w h0 hr z w' e => ?_)
  unfold plen at e
  split at e
  · rename_i hv
    cases e
    refine ⟨rfl, _, rfl, _, ?_, rfl⟩
    have hk : kd k i < 5 := by unfold kd; split <;> omega
    simp [alen, (hr.2.2.1 k i hv).1, hk]
  · cases e
theorem Lft_row3 {i : Int32} : Lft y (fun x (_ : Unit) => x = adA y 3 i.toNatClampNeg) (ldR 4 (yB y + 4) i) (prow 3 i) := by
  refine Lft_rd (fun w h0 hr z w' e => ?_)
  have e : (if oobB i 4 = false then some ((.inl () : Unit ⊕ String), w) else none) = some (z, w') := e
  by_cases hv : oobB i 4 = false
  · rw [if_pos hv] at e
    cases e
    have hlt : i.toNatClampNeg < 4 := Nat.not_le.mp fun q => oobB_in hv (Or.inr q)
    refine ⟨rfl, _, rfl, _, ?_, rfl⟩
    simp [ldR, hr.2.2.2.1.1, hv, hlt, adA]
  · rw [if_neg hv] at e
    cases e
theorem Lft_row4 {i : Int32} : Lft y (fun x (_ : Unit) => x = adA y 4 i.toNatClampNeg) (ldR 4 (yB y + 9) i) (prow 4 i) := by
  refine Lft_rd (fun w h0 hr z w' e => ?_)
  have e : (if oobB i 3 = false then some ((.inl () : Unit ⊕ String), w) else none) = some (z, w') := e
  by_cases hv : oobB i 3 = false
  · rw [if_pos hv] at e
    cases e
    have hlt : i.toNatClampNeg < 3 := Nat.not_le.mp fun q => oobB_in hv (Or.inr q)
    refine ⟨rfl, _, rfl, _, ?_, rfl⟩
    simp [ldR, hr.2.2.2.2.1.1, hv, hlt, adA]
  · rw [if_neg hv] at e
    cases e
theorem Lft_ldS {L : Nat} {xs : Nat → Int32} {i : Int32} : Lft y Eq (ldS L xs i) (pldS L xs i) := by
  refine Lft_rd (fun w h0 hr z w' e => ?_)
  unfold pldS at e
  split at e
  · rename_i hv
    cases e
    exact ⟨rfl, _, rfl, _, by simp [ldS, hv], rfl⟩
  · cases e
theorem Lft_divI {x z : Int32} : Lft y Eq (divI x z) (pdivI x z) := by
  refine Lft_rd (fun w h0 hr z w' e => ?_)
  unfold pdivI at e
  split at e
  · cases e
  · rename_i hv
    cases e
    exact ⟨rfl, _, rfl, _, by simp [divI, hv], rfl⟩
theorem Lft_remI {x z : Int32} : Lft y Eq (remI x z) (premI x z) := by
  refine Lft_rd (fun w h0 hr z w' e => ?_)
  unfold premI at e
  split at e
  · cases e
  · rename_i hv
    cases e
    exact ⟨rfl, _, rfl, _, by simp [remI, hv], rfl⟩
theorem Lft_divL {x z : Int64} : Lft y Eq (divL x z) (pdivL x z) := by
  refine Lft_rd (fun w h0 hr z w' e => ?_)
  unfold pdivL at e
  split at e
  · cases e
  · rename_i hv
    cases e
    exact ⟨rfl, _, rfl, _, by simp [divL, hv], rfl⟩
theorem Lft_remL {x z : Int64} : Lft y Eq (remL x z) (premL x z) := by
  refine Lft_rd (fun w h0 hr z w' e => ?_)
  unfold premL at e
  split at e
  · cases e
  · rename_i hv
    cases e
    exact ⟨rfl, _, rfl, _, by simp [remL, hv], rfl⟩
end LFT
