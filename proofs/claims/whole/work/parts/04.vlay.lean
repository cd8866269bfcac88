/-! the machine's worlds as one abstract heap, and a judgement 'the code at pc does what K does' -/
def isXT : Cond → Bool
  | .castable _ _ => true
  | .declares _ => true
  | _ => false
def TT : List Cond := lw_tbl.filter goodWord
def XT : List Cond := lw_tbl.filter isXT
theorem TT_good : GoodIn TT TT := fun _ h => ⟨h, good_of_word (List.mem_filter.mp h).2⟩
theorem TT_mem {w : Cond} (h : w ∈ lw_tbl) (hg : goodWord w = true) : w ∈ TT := List.mem_filter.mpr ⟨h, hg⟩
theorem XT_mem {w : Cond} (h : w ∈ lw_tbl) (hg : isXT w = true) : w ∈ XT := List.mem_filter.mpr ⟨h, hg⟩
abbrev AE : Type := (Nat × vp_A) ⊕ (Nat × List Value)
/-- how many cells, how many slots, what each address holds -/
abbrev AH : Type := Nat × Nat × (Nat → Option AE)
/-- what is fixed for the whole run: class numbers and slots; array classes; where the own cells begin; the script's cell, length, ints; the empty list's array; the texts' cells; the mirror of Object[] -/
abbrev GX : Type := va_G × (Nat → ClassId) × Nat × Nat × Nat × (Nat → Int32) × Nat × (Nat → Nat) × Nat
abbrev gD (g : GX) : va_G := g.1
abbrev gcy (g : GX) : Nat → ClassId := g.2.1
abbrev gB (g : GX) : Nat := g.2.2.1
abbrev gb (g : GX) : Nat := g.2.2.2.1
abbrev gL (g : GX) : Nat := g.2.2.2.2.1
abbrev gxs (g : GX) : Nat → Int32 := g.2.2.2.2.2.1
abbrev gt0 (g : GX) : Nat := g.2.2.2.2.2.2.1
abbrev gsa (g : GX) : Nat → Nat := g.2.2.2.2.2.2.2.1
abbrev gmi (g : GX) : Nat := g.2.2.2.2.2.2.2.2
abbrev gA (g : GX) : Nat → Prop := fun q => gB g ≤ q
def toE (cy : Nat → ClassId) (e : AE) : va_E := match e with
  | .inl a => .inl (cy a.1, a.2)
  | .inr o => .inr o
abbrev objN : String := "java/lang/Object"
abbrev gty (g : GX) : List (ClassId × FieldType) := [(gcy g 0, .int), (gcy g 1, .long), (gcy g 2, .boolean), (gcy g 3, .object "java/lang/Object"), (gcy g 4, .array .int)]
def rep (g : GX) (h : AH) (H : Heap) : Prop := H.size = h.1 ∧ ∀ (a : Nat) (e : AE), h.2.2 a = some e → gB g ≤ a ∧ va_at (gD g) vwCl (a, toE (gcy g) e) H
def strs : List (Nat × String) := [(102, "no such minute of this day"), (165, "nothing else is known of a box"), (171, "no such leg, or nothing else is known of one"), (179, "no such span"), (200, "no such carrier"), (203, "no such sum"), (220, "nothing else is counted"), (222, "no such train"), (224, "no such box")]
def kn (g : GX) (U : State) : Prop := va_K (gD g) vwCl (gty g) U ∧ (∀ w ∈ XT, va_Nw w U) ∧ (∀ (k : Nat) (q : Nat × String), strs[k]? = some q → vk_R RX5 q.1 q.2 (gsa g k) U) ∧ va_AO "java/lang/Object" U ∧ va_AOA .int U ∧ va_Mi "[Ljava/lang/Object;" (gmi g) U ∧ va_Nc "java/lang/IllegalArgumentException" "java/util/NoSuchElementException" U
def old (g : GX) (U : State) (H : Heap) : Prop := va_X (gb g) (gL g) (gxs g) U H ∧ gb g < gB g ∧ va_T (.object "java/lang/Object") (gt0 g) 0 (fun _ => .null) (gA g) U H ∧ va_Z "java/util/ArrayList" "DEFAULTCAPACITY_EMPTY_ELEMENTDATA" "[Ljava/lang/Object;" (.ref (gt0 g)) (gA g) U H ∧ vx_Zq Bundle.tN "UNASSIGNED_STACK" Bundle.steD (gA g) U H ∧ vx_Zq Bundle.tN "SUPPRESSED_SENTINEL" Bundle.listD (gA g) U H
theorem va_AOA.moved {ty : FieldType} {u U : State} (hvm : u.vm.Alike U.vm) (h : va_AOA ty u) : va_AOA ty U := by
  exact Jvm.Stand.arrayOver_alikeB hvm h
theorem kn.warm {g : GX} {s U : State} (hW : s.WarmedH U.vm) (h : kn g s) : kn g U := by
  obtain ⟨h1, h2, h3, h4, h5, h6, h7⟩ := h
  refine ⟨va_K.moved hW.alike h1, fun w hw => ?_, fun k q hk => (h3 k q hk).warm hW, h4.moved hW.alike, h5.moved hW.alike, h6.moved hW.alike, h7.moved hW.alike⟩
  have hx := h2 w hw
  have hi := (List.mem_filter.mp hw).2
  cases w <;> simp only [isXT] at hi <;> first | exact va_Nw.warmC hW hx | exact va_Nw.warmD hW hx | cases hi
theorem old.moved {g : GX} {u U : State} {H : Heap} (hvm : u.vm.Alike U.vm) (h : old g u H) : old g U H := by
  obtain ⟨h1, h2, h3, h4, h5, h6⟩ := h
  exact ⟨h1.moved hvm, h2, h3.moved hvm, h4.moved hvm, h5.moved hvm, h6.moved hvm⟩
theorem old.kept {g : GX} {U : State} {H H1 : Heap} (hB : gB g ≤ H.size) (h : old g U H) (hq : ∀ a : Nat, a < H.size → ¬ gA g a → H1[a]? = H[a]?) : old g U H1 := by
  obtain ⟨h1, h2, h3, h4, h5, h6⟩ := h
  exact ⟨h1.kept (hq _ (by omega) (by show ¬ gB g ≤ _; omega)), h2, h3.kept hq, h4.kept hq, h5.kept hq, h6.kept hq⟩
abbrev Rs : Type := Option Value ⊕ String
def wd (g : GX) (h : AH) (U : State) : Prop := rep g h U.heap ∧ kn g U ∧ old g U U.heap ∧ gB g ≤ U.heap.size
def QP (g : GX) (x : Rs × AH) : Array Value → State → Outcome → State → Prop := fun _ st o t => ∃ v, x.1 = .inl v ∧ o = .returned v ∧ rep g x.2 t.heap ∧ va_F (gA g) st t
def XP (g : GX) (x : Rs × AH) : String → State → State → Prop := fun E st t => x.1 = .inr E ∧ rep g x.2 t.heap ∧ va_F (gA g) st t
/-- a method: name, code, how many locals, what it returns, its handlers; the frames and words that it may need -/
abbrev MS : Type := MethodName × ByteArray × Nat × Option FieldType × List ExceptionTableEntry × Nat × Nat
abbrev mY (M : MS) : MethodName := M.1
abbrev mC (M : MS) : ByteArray := M.2.1
abbrev mL (M : MS) : Nat := M.2.2.1
abbrev mR (M : MS) : Option FieldType := M.2.2.2.1
abbrev mE (M : MS) : List ExceptionTableEntry := M.2.2.2.2.1
abbrev mF (M : MS) : Nat := M.2.2.2.2.2.1
abbrev mW (M : MS) : Nat := M.2.2.2.2.2.2
def bdy (l : Launch) (g : GX) (M : MS) (p : Program) (s : State) (m : MethodId) (args : Array Value) (meth : Method) (c : Code) : Prop :=
  p.tables.exec = Jvm.exec ∧ c.code = mC M ∧ c.maxLocals = mL M ∧ s.vm.findClass (mY M).cls = some m.cls ∧ (∀ w ∈ TT, w.before args s = true) ∧ meth.sig.returnType = mR M ∧ meth.locks = false ∧ meth.name = (mY M).name ∧ c.exceptionTable.toList = mE M ∧ kn g s ∧ old g s s.heap ∧ gB g ≤ s.heap.size ∧ l.stackTraces = false
/-- from pc, with these locals, this stack, this heap, the method comes to its end x -/
def V (l : Launch) (g : GX) (M : MS) (pc : Nat) (lv : List (Nat × Value)) (st : List Value) (h : AH) (x : Rs × AH) : Prop :=
  h.1 ≤ x.2.1 ∧ h.2.1 ≤ x.2.2.1 ∧ ∀ (p : Program) (e : Env) (s : State) (m : MethodId) (args : Array Value) (below : List Frame) (meth : Method) (c : Code) (R : Room) (H : Heap) (locs : List Loc) (cells slots mc ms : Nat) (ls : Array Slot),
    bdy l g M p s m args meth c → mF M ≤ R.frames → mW M ≤ R.locals → cells + (x.2.1 - h.1) ≤ mc → slots + (x.2.2.1 - h.2.1) ≤ ms → mc ≤ R.cells → ms ≤ R.slots → rep g h H → va_S (gA g) s.heap H locs → lv_has ls (mL M) lv →
    W p l e R s m args below meth c H locs cells slots (vx_MQ below (QP g x) (XP g x) args s mc ms (gA g)) (F0 m pc ls st)
abbrev Mo (α : Type) : Type := AH → Option ((α ⊕ String) × AH)
def cvR {α : Type} (cv : α → Option Value) (y : (α ⊕ String) × AH) : Rs × AH := (match y.1 with
  | .inl a => .inl (cv a)
  | .inr E => .inr E, y.2)
/-- the code at pc does what K does -/
def I {α : Type} (l : Launch) (g : GX) (M : MS) (cv : α → Option Value) (pc : Nat) (lv : List (Nat × Value)) (st : List Value) (K : Mo α) : Prop := ∀ (h : AH) (y : (α ⊕ String) × AH), K h = some y → V l g M pc lv st h (cvR cv y)
abbrev cvI : Int32 → Option Value := fun v => some (.int v)
abbrev cvU : Unit → Option Value := fun _ => none
abbrev cvA : Nat → Option Value := fun a => some (.ref a)
def bnd {α β : Type} (m : Mo α) (f : α → Mo β) : Mo β := fun h => match m h with
  | none => none
  | some (.inl a, h1) => f a h1
  | some (.inr E, h1) => some (.inr E, h1)
def rt {α : Type} (a : α) : Mo α := fun h => some (.inl a, h)
def flr {α : Type} : Mo α := fun _ => none
def thr {α : Type} (E : String) : Mo α := fun h => some (.inr E, (h.1 + 1, h.2.1 + 6, h.2.2))
def hset (h : AH) (a : Nat) (e : AE) : AH := (h.1, h.2.1, va_up h.2.2 a (some e))
def fld (a ci k : Nat) (h : AH) : Option Value := match h.2.2 a with
  | some (.inr o) => if o.1 = ci then o.2[k]? else none
  | _ => none
def gI (a ci k : Nat) : Mo Int32 := fun h => match fld a ci k h with
  | some (.int v) => some (.inl v, h)
  | _ => none
def gA' (a ci k : Nat) : Mo Nat := fun h => match fld a ci k h with
  | some (.ref v) => some (.inl v, h)
  | _ => none
def gO (a ci k : Nat) : Mo (Option Nat) := fun h => match fld a ci k h with
  | some (.ref v) => some (.inl (some v), h)
  | some .null => some (.inl none, h)
  | _ => none
def pV (a ci k : Nat) (v : Value) : Mo Unit := fun h => match h.2.2 a with
  | some (.inr o) => if o.1 = ci ∧ k < o.2.length then some (.inl (), hset h a (.inr (ci, o.2.set k v))) else none
  | _ => none
def pZ (a ci k : Nat) (v : Int32) : Mo Unit := fun h => if v = 0 ∨ v = 1 then pV a ci k (.int v) h else none
def oob (i : Int32) (n : Nat) : Prop := i < 0 ∨ n ≤ i.toNatClampNeg
def oobB (i : Int32) (n : Nat) : Bool := decide (i < 0) || decide (n ≤ i.toNatClampNeg)
theorem oobB_in {i : Int32} {n : Nat} (h : oobB i n = false) : vp_in i n := by
  intro q
  simp only [oobB, Bool.or_eq_false_iff, decide_eq_false_iff_not] at h
  rcases q with q | q
  · exact h.1 q
  · exact h.2 q
/-- int[] (kind 0) and boolean[] (kind 2) -/
def ldK (k : Nat) (a : Nat) (i : Int32) : Mo Int32 := fun h => match h.2.2 a with
  | some (.inl (k', n, .inl f)) => if k' = k ∧ oobB i n = false then some (.inl (f i.toNatClampNeg), h) else none
  | _ => none
def stK (k : Nat) (a : Nat) (i : Int32) (v : Int32) : Mo Unit := fun h => match h.2.2 a with
  | some (.inl (k', n, .inl f)) => if k' = k ∧ oobB i n = false then some (.inl (), hset h a (.inl (k, n, .inl (upd f i.toNatClampNeg v)))) else none
  | _ => none
def stZ (a : Nat) (i : Int32) (v : Int32) : Mo Unit := fun h => if v = 0 ∨ v = 1 then stK 2 a i v h else none
/-- long[] (kind 1) -/
def ldL (a : Nat) (i : Int32) : Mo Int64 := fun h => match h.2.2 a with
  | some (.inl (k', n, .inr (.inl f))) => if k' = 1 ∧ oobB i n = false then some (.inl (f i.toNatClampNeg), h) else none
  | _ => none
def stL (a : Nat) (i : Int32) (v : Int64) : Mo Unit := fun h => match h.2.2 a with
  | some (.inl (k', n, .inr (.inl f))) => if k' = 1 ∧ oobB i n = false then some (.inl (), hset h a (.inl (1, n, .inr (.inl (vp_updL f i.toNatClampNeg v))))) else none
  | _ => none
/-- Object[] (kind 3), int[][] (kind 4) -/
def ldR (k : Nat) (a : Nat) (i : Int32) : Mo Nat := fun h => match h.2.2 a with
  | some (.inl (k', n, .inr (.inr (.inr (.inr f))))) => if k' = k ∧ oobB i n = false then (match f i.toNatClampNeg with
    | some v => some (.inl v, h)
    | none => none) else none
  | _ => none
def alen (a : Nat) : Mo Int32 := fun h => match h.2.2 a with
  | some (.inl (k, x)) => if k < 5 then some (.inl (Int32.ofNat x.1), h) else none
  | _ => none
def newO (ci N : Nat) (fs : List Value) : Mo Nat := fun h => some (.inl h.1, (h.1 + 1, h.2.1 + N, va_up h.2.2 h.1 (some (.inr (ci, fs)))))
def newK (k : Nat) (c : (Nat → Int32) ⊕ (Nat → Int64) ⊕ (Nat → UInt32) ⊕ (Nat → UInt64) ⊕ (Nat → Option Nat)) (n : Int32) : Mo Nat := fun h => if n < 0 ∨ 1000000 < n.toNatClampNeg then none else some (.inl h.1, (h.1 + 1, h.2.1 + n.toNatClampNeg, va_up h.2.2 h.1 (some (.inl (k, n.toNatClampNeg, c)))))
/-- the array of a list: Object[] (kind 3) that takes an object -/
def stR (a : Nat) (i : Int32) (v : Nat) : Mo Unit := fun h => match h.2.2 a, h.2.2 v with
  | some (.inl (k', n, .inr (.inr (.inr (.inr f))))), some (.inr o) => if k' = 3 ∧ oobB i n = false ∧ (o.1 = 1 ∨ o.1 = 4) then some (.inl (), hset h a (.inl (3, n, .inr (.inr (.inr (.inr (va_up f i.toNatClampNeg (some v)))))))) else none
  | _, _ => none
/-- the script -/
def ldS (L : Nat) (xs : Nat → Int32) (i : Int32) : Mo Int32 := fun h => if oobB i L = false then some (.inl (xs i.toNatClampNeg), h) else none
/-- an object of this class -/
def isC (a ci : Nat) : Mo Unit := fun h => match h.2.2 a with
  | some (.inr o) => if o.1 = ci then some (.inl (), h) else none
  | _ => none
/-- a call on an object of this class -/
def vc {β : Type} (b ci : Nat) (op : Mo β) : Mo β := fun h => match h.2.2 b with
  | some (.inr o) => if o.1 = ci then op h else none
  | _ => none
def alenT (t0 a : Nat) : Mo Int32 := fun h => if a = t0 then some (.inl 0, h) else alen a h
def rtZ (v : Int32) : Mo Int32 := fun h => if v = 0 ∨ v = 1 then some (.inl v, h) else none
def divI (x y : Int32) : Mo Int32 := fun h => if y = 0 then none else some (.inl (x / y), h)
def remI (x y : Int32) : Mo Int32 := fun h => if y = 0 then none else some (.inl (x - x / y * y), h)
def divL (x y : Int64) : Mo Int64 := fun h => if y = 0 then none else some (.inl (x / y), h)
def remL (x y : Int64) : Mo Int64 := fun h => if y = 0 then none else some (.inl (x - x / y * y), h)
