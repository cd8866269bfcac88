/-! calls, throws -/
def wsM (z : MS) : List Cond := Cond.code (mY z) (mC z) (mL z) (mR z) :: TT
/-- method z, called with av, does what op does -/
def Cs {β : Type} (l : Launch) (g : GX) (z : MS) (cvz : β → Option Value) (av : List Value) (op : Mo β) : Prop := ∀ (h : AH) (y : (β ⊕ String) × AH), op h = some y → h.1 ≤ y.2.1 ∧ h.2.1 ≤ y.2.2.1 ∧ vx_Met l (mY z) (wsM z) { frames := mF z, cells := y.2.1 - h.1, slots := y.2.2.1 - h.2.1, locals := mW z } (va_Pc av (wd g h)) (QP g (cvR cvz y)) (XP g (cvR cvz y)) (y.2.1 - h.1) (y.2.2.1 - h.2.1) (gA g)
set_option maxRecDepth 20000 in
theorem Cs_of_I {β : Type} {l : Launch} {g : GX} {z : MS} {cvz : β → Option Value} {av : List Value} {op : Mo β} (lv : List (Nat × Value)) (hE : mE z = []) (hpl : plainName (mY z).cls = true) (hst : l.stackTraces = false) (hargs : (lg_sl av).length ≤ mL z) (hlv : lv_args 0 av = lv) (hI : I l g z cvz 0 lv [] op) : Cs l g z cvz av op := by
  intro h y hy
  obtain ⟨a, b, w⟩ := hI h y hy
  refine ⟨a, b, ?_⟩
  refine vx_ofW (cc := mC z) (maxL := mL z) (ret := mR z) hpl rfl ?_
  intro p e s m args below meth c s₁ B hml ht hv
  obtain ⟨rfl, hr, hk, ho, hB⟩ := hv
  have hts := atoms_spec (ws := wsM z) B.pre
  have hown : s.vm.findClass (mY z).cls = some m.cls := findClass_of_methodNamed B.named
  have hl := lv_entry av (n := mL z) hargs
  rw [hlv] at hl
  rw [lg_entry_eq]
  generalize (lg_sl av ++ List.replicate (mL z - (lg_sl av).length) Slot.unset).toArray = ls at hl ⊢
  have hx : c.exceptionTable.toList = mE z := by
    rw [hE]
    exact List.eq_nil_iff_forall_not_mem.mpr (fun x hx => ht x hx)
  exact w p e s m _ below meth c _ s.heap [] 0 0 _ _ ls ⟨B.exec, B.bytes, hml, hown, fun w hw => hts w (List.mem_cons_of_mem _ hw), B.returns, B.notSynchronized, (name_of_methodNamed B.named B.method).1, hx, hk, ho, hB, hst⟩ (Nat.le_refl _) (Nat.le_refl _) (by show 0 + (y.2.1 - h.1) ≤ _; omega) (by show 0 + (y.2.2.1 - h.2.1) ≤ _; omega) (Nat.le_refl _) (Nat.le_refl _) hr va_S.rf hl
theorem wd_blind {g : GX} {h : AH} {av : List Value} : FrameBlind (va_Pc av (wd g h)) := by
  intro a U gg mk q
  obtain ⟨q0, q1, q2, q3, q4⟩ := q
  exact ⟨q0, q1, kn.warm (s := U) (U := U.calling gg mk a) (State.WarmedH.refl U) q2, old.moved (u := U) (U := U.calling gg mk a) (Vm.Alike.refl U.vm) q3, q4⟩
theorem wd_at {l : Launch} {g : GX} {M : MS} {p : Program} {s : State} {m : MethodId} {args : Array Value} {meth : Method} {c : Code} {h : AH} {H : Heap} {locs : List Loc} (B : bdy l g M p s m args meth c) (hr : rep g h H) (hS : va_S (gA g) s.heap H locs) {U : State} (hU : U.heap = H) (hW : s.WarmedH U.vm) : wd g h U := by
  refine ⟨by rw [hU]; exact hr, kn.warm hW B.2.2.2.2.2.2.2.2.2.1, ?_, by rw [hU]; exact bH B hS⟩
  rw [hU]
  exact old.moved hW.alike (old.kept (bS B) (bO B) hS.2.1)
section CALL
variable {α β : Type} {l : Launch} {g : GX} {M z : MS} {cv : α → Option Value} {cvz : β → Option Value} {pc : Nat} {lv lv' : List (Nat × Value)} {st st' rest As : List Value} {op : Mo β} {f : β → Mo α} {b index : Nat}
theorem I_run {av : Array Value} (hm : ∀ (h : AH) (y : (β ⊕ String) × AH), op h = some y → h.1 ≤ y.2.1 ∧ h.2.1 ≤ y.2.2.1 ∧ ∀ (p : Program) (e : Env) (s : State) (m : MethodId) (args : Array Value) (below : List Frame) (meth : Method) (c : Code) (R : Room) (H : Heap) (locs : List Loc) (cells slots : Nat) (ls : Array Slot), bdy l g M p s m args meth c → rep g h H → va_S (gA g) s.heap H locs → mF M ≤ R.frames → mW M ≤ R.locals → lv_has ls (mL M) lv → cells + (y.2.1 - h.1) ≤ R.cells → slots + (y.2.2.1 - h.2.1) ≤ R.slots →
      vx_Run p l e R s m args below meth c H locs cells slots (y.2.1 - h.1) (y.2.2.1 - h.2.1) (F0 m pc ls st) rest (QP g (cvR cvz y) av) (XP g (cvR cvz y)) (gA g))
    (hout : ∀ x ∈ mE M, covers x pc = false) (kk : ∀ v, I l g M cv (pc + 3) lv ((cvz v).toList ++ rest) (f v)) : I l g M cv pc lv st (bnd op f) := by
  intro h y hy
  unfold bnd at hy
  cases hz : op h with
  | none => rw [hz] at hy; cases hy
  | some y1 =>
    obtain ⟨n1, n2, hrun⟩ := hm h y1 hz
    rw [hz] at hy
    obtain ⟨r1, h1⟩ := y1
    cases r1 with
    | inl v =>
      obtain ⟨m1, m2, w⟩ := kk v h1 y hy
      have n1' : h.1 ≤ h1.1 := n1
      have n2' : h.2.1 ≤ h1.2.1 := n2
      refine ⟨Nat.le_trans n1' m1, Nat.le_trans n2' m2, ?_⟩
      intro p e s m args below meth c R H locs cells slots mc ms ls B f1 f2 f3 f4 f5 f6 hr hS hl T hT X
      have k1 : cells + (h1.1 - h.1) ≤ R.cells := by omega
      have k2 : slots + (h1.2.1 - h.2.1) ≤ R.slots := by omega
      rcases hrun p e s m args below meth c R H locs cells slots ls B hr hS f1 f2 hl k1 k2 T hT X with ⟨v9, st₀, t, T', L, h0, X', hL, e1, e2, ⟨v8, q1, q2, q3, q4⟩, stp⟩ | ⟨q, st₀, t, T', L, E, ce, h0, X', hL, e1, e2, ⟨q1, -⟩, -⟩
      · cases q1
        cases q2
        obtain ⟨-, -, k3⟩ := vx_keep h0 e1 hS (fun _ _ q => q) (fun _ q => q) hL q4
        obtain ⟨t2, a1, b1⟩ := w p e s m args below meth c R T'.heap (locs ++ L) _ _ mc ms ls B f1 f2 (by show cells + (h1.1 - h.1) + _ ≤ _; omega) (by show slots + (h1.2.1 - h.2.1) + _ ≤ _; omega) f5 f6 (by rw [e1]; exact q3) k3 hl T' rfl X'
        exact ⟨t2, stp t2 a1, b1⟩
      · cases q1
    | inr E =>
      cases hy
      refine ⟨n1, n2, ?_⟩
      intro p e s m args below meth c R H locs cells slots mc ms ls B f1 f2 f3 f4 f5 f6 hr hS hl T hT X
      have f3' : cells + (h1.1 - h.1) ≤ mc := f3
      have f4' : slots + (h1.2.1 - h.2.1) ≤ ms := f4
      have k1 : cells + (h1.1 - h.1) ≤ R.cells := by omega
      have k2 : slots + (h1.2.1 - h.2.1) ≤ R.slots := by omega
      rcases hrun p e s m args below meth c R H locs cells slots ls B hr hS f1 f2 hl k1 k2 T hT X with ⟨v9, st₀, t, T', L, h0, X', hL, e1, e2, ⟨v8, q1, q2, q3, q4⟩, stp⟩ | ⟨q, st₀, t, T', L, E9, ce, h0, X', hL, e1, e2, ⟨q1, q3, q4⟩, hce, hcv, hcl, stp⟩
      · cases q1
      · cases q1
        obtain ⟨-, -, k3⟩ := vx_keep h0 e1 hS (fun _ _ q => q) (fun _ q => q) hL q4
        obtain ⟨t2, a1, b1⟩ := vx_out (p := p) (l := l) (e := e) (R := R) (m := m) (args := args) (below := below) (c := c) (locs := locs ++ L) (ls := ls) (rest := rest) (Qc := QP g (cvR cv (.inr E, h1))) (XC := XP g (cvR cv (.inr E, h1))) (free := gA g) (mc := mc) (ms := ms) (pc := pc) (by rw [B.2.2.2.2.2.2.2.2.1]; exact hout) B.2.2.2.2.2.2.1 (H := T'.heap) (by rw [e1]; exact hce) hcv hcl (fun t9 ht9 _ => ⟨rfl, by rw [ht9, e1]; exact q3, k3.F ht9⟩) k3.2.2 f3' f4' T' rfl X'
        exact ⟨t2, stp.trans a1, b1⟩
theorem goodM (hc : Cond.code (mY z) (mC z) (mL z) (mR z) ∈ TT) : GoodIn TT (wsM z) := fun w hw => by
  rcases List.mem_cons.mp hw with h | h
  · subst h; exact TT_good _ hc
  · exact TT_good _ h
/-- what a call's own words are: its link, its method's kind -/
theorem callB_at {p : Program} {s : State} {m : MethodId} {args : Array Value} {meth : Method} {c : Code} {R : Room} {mc ms n : Nat} (B : bdy l g M p s m args meth c) (f1 : mF M ≤ R.frames) (f2 : mW M ≤ R.locals) (hroom : mF z + 1 ≤ mF M ∧ 8 + (mL z + 11) + mW z ≤ mW M) (hc : Cond.code (mY z) (mC z) (mL z) (mR z) ∈ TT) (hi : Cond.initialized (mY z).cls ∈ TT) (hl : Cond.methodLink (mY M).cls index (mY z) ∈ TT)
    (hd : (mY z).cls ≠ "java/lang/invoke/MethodHandle" ∧ (mY z).cls ≠ "java/lang/invoke/VarHandle" ∧ (parseMethodDescriptor (mY z).desc).map (fun d => d.parameters.length) = some n) : CallB R s args (mY M).cls index (mY z) (mC z) (mL z) (mR z) (wsM z) { frames := mF z, cells := mc, slots := ms, locals := mW z } mc ms n :=
  callB_of n B.2.2.2.2.1 (goodM hc) rfl rfl rfl (B.2.2.2.2.1 _ hi) (B.2.2.2.2.1 _ hl) hd ⟨Nat.le_trans hroom.1 f1, Nat.le_trans hroom.2 f2⟩
theorem vc_some {ci : Nat} {h : AH} {y : (β ⊕ String) × AH} (e : vc b ci op h = some y) : ∃ fs : List Value, h.2.2 b = some (.inr (ci, fs)) ∧ op h = some y := by
  unfold vc at e
  split at e
  · rename_i o ho
    split at e
    · rename_i hc
      subst hc
      exact ⟨o.2, ho, e⟩
    · cases e
  · cases e
theorem I_callV {ci N : Nat} {T : u_T} {ty : Nat → FieldType} (hC : Cs l g z cvz (.ref b :: As) op) (hd : decode (mC M) pc = .ok (.invokevirtual index, 3)) (hcl : clOK ci (mY z).cls T N ty) (hst : st = As.reverse ++ .ref b :: rest) (hroom : mF z + 1 ≤ mF M ∧ 8 + (mL z + 11) + mW z ≤ mW M) (hcat : (rest.map fun v => v.category).sum ≤ 8) (hc : Cond.code (mY z) (mC z) (mL z) (mR z) ∈ TT) (hi : Cond.initialized (mY z).cls ∈ TT) (hl : Cond.methodLink (mY M).cls index (mY z) ∈ TT) (hin : Cond.instanceMethod (mY z) ∈ TT) (hse : Cond.selects (mY z).cls (mY z) (mY z) ∈ TT)
    (hdd : (mY z).cls ≠ "java/lang/invoke/MethodHandle" ∧ (mY z).cls ≠ "java/lang/invoke/VarHandle" ∧ (parseMethodDescriptor (mY z).desc).map (fun d => d.parameters.length) = some As.length) (hout : ∀ x ∈ mE M, covers x pc = false) (kk : ∀ v, I l g M cv (pc + 3) lv ((cvz v).toList ++ rest) (f v)) : I l g M cv pc lv st (bnd (vc b ci op) f) := by
  refine I_run (cvz := cvz) (rest := rest) (av := (Value.ref b :: As).toArray) (fun h y hy => ?_) hout kk
  obtain ⟨fs, h1, h2⟩ := vc_some hy
  obtain ⟨n1, n2, hM⟩ := hC h y h2
  refine ⟨n1, n2, ?_⟩
  intro p e s m args below meth c R H locs cells slots ls B hr hS f1 f2 hlv k1 k2
  exact vx_runV (g := F0 m pc ls st) (As := As) (b := b) ⟨B.1, B.2.1, B.2.2.1, B.2.2.2.1, B.2.2.2.2.1⟩ hM ⟨callB_at B f1 f2 hroom hc hi hl hdd, B.2.2.2.2.1 _ hin, B.2.2.2.2.1 _ hse⟩ ⟨wd_blind, va_recv (bB B) (hr.P h1) hcl.1 (q0 := 0) rfl, fun U hU hW => ⟨rfl, wd_at B hr hS hU hW⟩⟩ rfl rfl hlv.1 hst (lv_room hcat) hd ⟨k1, k2⟩
theorem I_callS (hC : Cs l g z cvz As op) (hd : decode (mC M) pc = .ok (.invokestatic index, 3)) (hst : st = As.reverse ++ rest) (hroom : mF z + 1 ≤ mF M ∧ 8 + (mL z + 11) + mW z ≤ mW M) (hcat : (rest.map fun v => v.category).sum ≤ 8) (hc : Cond.code (mY z) (mC z) (mL z) (mR z) ∈ TT) (hi : Cond.initialized (mY z).cls ∈ TT) (hl : Cond.methodLink (mY M).cls index (mY z) ∈ TT) (hsc : Cond.static (mY z) ∈ TT)
    (hdd : (mY z).cls ≠ "java/lang/invoke/MethodHandle" ∧ (mY z).cls ≠ "java/lang/invoke/VarHandle" ∧ (parseMethodDescriptor (mY z).desc).map (fun d => d.parameters.length) = some As.length) (hout : ∀ x ∈ mE M, covers x pc = false) (kk : ∀ v, I l g M cv (pc + 3) lv ((cvz v).toList ++ rest) (f v)) : I l g M cv pc lv st (bnd op f) := by
  refine I_run (cvz := cvz) (rest := rest) (av := As.toArray) (fun h y hy => ?_) hout kk
  obtain ⟨n1, n2, hM⟩ := hC h y hy
  refine ⟨n1, n2, ?_⟩
  intro p e s m args below meth c R H locs cells slots ls B hr hS f1 f2 hlv k1 k2
  exact vx_runS (g := F0 m pc ls st) (As := As) ⟨B.1, B.2.1, B.2.2.1, B.2.2.2.1, B.2.2.2.2.1⟩ hM ⟨callB_at B f1 f2 hroom hc hi hl hdd, B.2.2.2.2.1 _ hsc⟩ ⟨wd_blind, fun U hU hW => ⟨rfl, wd_at B hr hS hU hW⟩⟩ rfl rfl hlv.1 hst (lv_room hcat) hd ⟨k1, k2⟩
/-- a constructor doesn't throw -/
theorem Met_of_vx {y : MethodName} {ws : List Cond} {rm : Room} {Pc : Array Value → State → Prop} {v : Option Value} {h1 : AH} {mc ms : Nat} {free : Addr → Prop} (hM : vx_Met l y ws rm Pc (QP g (.inl v, h1)) (XP g (.inl v, h1)) mc ms free) : Met l y ws rm Pc (QP g (.inl v, h1)) mc ms free := by
  intro p e ha hc hk s m args below hf happ hpc htr
  obtain ⟨t, o, a1, a2, a3, hq⟩ := hM p e ha hc hk s m args below hf happ hpc htr
  refine ⟨t, o, a1, a2, a3, ?_⟩
  rcases hq with hq | ⟨q, rfl, E, ce, L, ⟨hx, -⟩, -⟩
  · exact hq
  · cases hx
/-- it doesn't throw -/
def noT {β : Type} (op : Mo β) : Prop := ∀ (h : AH) (E : String) (h1 : AH), op h ≠ some (.inr E, h1)
theorem I_callI {op : Mo Unit} (hret : mR z = none) (hC : Cs l g z cvU (.ref b :: As) op) (hno : noT op) (hd : decode (mC M) pc = .ok (.invokespecial index, 3)) (hst : st = As.reverse ++ .ref b :: rest) (hroom : mF z + 1 ≤ mF M ∧ 8 + (mL z + 11) + mW z ≤ mW M) (hcat : (rest.map fun v => v.category).sum ≤ 8) (hc : Cond.code (mY z) (mC z) (mL z) none ∈ TT) (hi : Cond.initialized (mY z).cls ∈ TT) (hl : Cond.methodLink (mY M).cls index (mY z) ∈ TT) (hin : Cond.instanceMethod (mY z) ∈ TT) (hy1 : (mY z).name = "<init>")
    (hdd : (mY z).cls ≠ "java/lang/invoke/MethodHandle" ∧ (mY z).cls ≠ "java/lang/invoke/VarHandle" ∧ (parseMethodDescriptor (mY z).desc).map (fun d => d.parameters.length) = some As.length) {f : Unit → Mo α} (kk : I l g M cv (pc + 3) lv rest (f ())) : I l g M cv pc lv st (bnd op f) := by
  intro h y hy
  unfold bnd at hy
  cases hz : op h with
  | none => rw [hz] at hy; cases hy
  | some y1 =>
    obtain ⟨n1, n2, hM⟩ := hC h y1 hz
    rw [hz] at hy
    obtain ⟨r1, h1⟩ := y1
    cases r1 with
    | inr E => exact absurd hz (hno h E h1)
    | inl v =>
      obtain ⟨m1, m2, w⟩ := kk h1 y hy
      have n1' : h.1 ≤ h1.1 := n1
      have n2' : h.2.1 ≤ h1.2.1 := n2
      refine ⟨Nat.le_trans n1' m1, Nat.le_trans n2' m2, ?_⟩
      intro p e s m args below meth c R H locs cells slots mc ms ls B f1 f2 f3 f4 f5 f6 hr hS hl9 T hT X
      have k1 : cells + (h1.1 - h.1) ≤ R.cells := by omega
      have k2 : slots + (h1.2.1 - h.2.1) ≤ R.slots := by omega
      have hM2 : Met l (mY z) (wsM z) { frames := mF z, cells := h1.1 - h.1, slots := h1.2.1 - h.2.1, locals := mW z } (va_Pc (.ref b :: As) (wd g h)) (QP g (.inl none, h1)) (h1.1 - h.1) (h1.2.1 - h.2.1) (gA g) := Met_of_vx hM
      have hcb := callB_at (z := z) (mc := h1.1 - h.1) (ms := h1.2.1 - h.2.1) (index := index) (n := As.length) B f1 f2 hroom (by rw [hret]; exact hc) hi hl hdd
      rw [hret] at hcb
      obtain ⟨v9, st₀, t, T', L, h0, X', hL, e1, e2, ⟨v8, q1, q2, q3, q4⟩, stp⟩ := va_runI (g := F0 m pc ls st) (As := As) (b := b) (rest := rest) ⟨B.1, B.2.1, B.2.2.1, B.2.2.2.1, B.2.2.2.2.1⟩ hM2 ⟨hcb, hy1, B.2.2.2.2.1 _ hin⟩ ⟨wd_blind, fun U hU hW => ⟨rfl, wd_at B hr hS hU hW⟩⟩ rfl rfl hl9.1 hst (lv_room hcat) hd ⟨k1, k2⟩ T hT X
      cases q1
      cases q2
      obtain ⟨-, -, k3⟩ := vx_keep h0 e1 hS (fun _ _ q => q) (fun _ q => q) hL q4
      obtain ⟨t2, a1, b1⟩ := w p e s m args below meth c R T'.heap (locs ++ L) _ _ mc ms ls B f1 f2 (by show cells + (h1.1 - h.1) + _ ≤ _; omega) (by show slots + (h1.2.1 - h.2.1) + _ ≤ _; omega) f5 f6 (by rw [e1]; exact q3) k3 hl9 T' rfl X'
      exact ⟨t2, stp t2 a1, b1⟩
/-- Object's own constructor -/
theorem I_objInit {K : Mo α} {a : Nat} (pc' : Nat) (hd : decode (mC M) pc = .ok (.invokespecial index, 3)) (hp : pc + 3 = pc') (hl : Cond.methodLink (mY M).cls index Lib.objectInit ∈ TT) (hin : Cond.instanceMethod Lib.objectInit ∈ TT) (hc : Cond.code Lib.objectInit ⟨#[0xb1]⟩ 1 none ∈ TT) (hf : 1 ≤ mF M) (hw : (rest.map fun v => v.category).sum + 12 ≤ mW M) (kk : I l g M cv pc' lv rest K) : I l g M cv pc lv (.ref a :: rest) K := by
  subst hp
  exact I_of (fun p e s m args below meth c R H locs cells slots Q ls B hlv hS f1 f2 w => W.objInit B.1 B.2.1 B.2.2.2.1 (B.2.2.2.2.1 _ hl) (B.2.2.2.2.1 _ hin) (B.2.2.2.2.1 _ hc) rfl (by rw [B.2.2.1]; exact hlv.1) rfl hd (Nat.le_trans hf f1) (by show 2 * 0 + _ + 12 ≤ _; omega) (w ls hlv)) kk
/-- getstatic of the empty list's array -/
theorem I_gets {K : Mo α} (pc' : Nat) (hd : decode (mC M) pc = .ok (.getstatic index, 3)) (hp : pc + 3 = pc') (hl : Cond.fieldLink (mY M).cls index "java/util/ArrayList" "DEFAULTCAPACITY_EMPTY_ELEMENTDATA" "[Ljava/lang/Object;" ∈ TT) (kk : I l g M cv pc' lv (.ref (gt0 g) :: st) K) : I l g M cv pc lv st K := by
  subst hp
  exact I_of (fun p e s m args below meth c R H locs cells slots Q ls B hlv hS f1 f2 w => va_gets B.1 B.2.1 (bO B).2.2.2.1 hS B.2.2.2.1 (B.2.2.2.2.1 _ hl) (fun _ h => h) hd (w ls hlv)) kk
/-- throw new E("text") -/
theorem I_throw {cls text : String} {names : List String} {ik is ic k : Nat} (d0 : decode (mC M) pc = .ok (.new ik, 3)) (d3 : decode (mC M) (pc + 3) = .ok (.dup, 1)) (d4 : decode (mC M) (pc + 4) = .ok (.ldc is, 2)) (d6 : decode (mC M) (pc + 6) = .ok (.invokespecial ic, 3)) (d9 : decode (mC M) (pc + 9) = .ok (.athrow, 1)) (hown : (mY M).cls = RX5) (hs : strs[k]? = some (is, text)) (hcls : Bundle.fit cls = true) (hnames : ∀ n ∈ names, Bundle.fit n = true) (hk : Cond.classLink RX5 ik cls ∈ TT) (hini : Cond.initialized cls ∈ TT) (hat : ∀ w ∈ vx_atS RX5 ic cls names, w ∈ TT ∨ w ∈ XT) (hgood : ∀ w ∈ Cond.classLink RX5 ik cls :: Cond.initialized cls :: vx_atS RX5 ic cls names, vx_ot w = true) (hE : mE M = []) (hF : names.length + 3 < mF M) (hW : (st.map fun v => v.category).sum + (13 * (names.length + 1) + 43) ≤ mW M) : I l g M cv pc lv st (thr cls) := by
  intro h y hy
  cases hy
  refine ⟨Nat.le_succ _, Nat.le_add_right _ _, ?_⟩
  intro p e s m args below meth c R H locs cells slots mc ms ls B f1 f2 f3 f4 f5 f6 hr hS hl
  have f3' : cells + (h.1 + 1 - h.1) ≤ mc := f3
  have f4' : slots + (h.2.1 + 6 - h.2.1) ≤ ms := f4
  have hts := B.2.2.2.2.1
  have hkn := B.2.2.2.2.2.2.2.2.2.1
  have ho := bO B
  have hown2 : s.vm.findClass RX5 = some m.cls := by rw [← hown]; exact B.2.2.2.1
  refine vx_throwS (sa := gsa g k) (names := names) B.1 B.2.1 B.2.2.2.2.2.2.2.2.2.2.2.2 hown2 hcls hnames (hts _ hk) (hts _ hini) (hkn.2.2.1 k _ hs) (fun w hw => ?_) hgood ho.2.2.2.2.1 ho.2.2.2.2.2 hS (by rw [B.2.2.1]; exact hl.1) d0 d3 d4 d6 d9 (by rw [B.2.2.2.2.2.2.2.2.1, hE]; intro x hx; cases hx) (by omega) (by omega) (by omega) (by omega) B.2.2.2.2.2.2.1 ?_ hS.2.2 (by omega) (by omega)
  · rcases hat w hw with q | q
    · exact hts w q
    · refine va_Nw.use ?_ (hkn.2.1 w q)
      have hi := (List.mem_filter.mp q).2
      cases w <;> first | rfl | (simp only [isXT] at hi; cases hi)
  · intro t hal hsz hold
    refine ⟨rfl, ⟨by rw [hsz, hr.1]; rfl, fun a e9 ha => ?_⟩, ⟨by rw [hsz]; have := hS.1; omega, fun q h1 h2 => ?_⟩⟩
    · have ha' : h.2.2 a = some e9 := ha
      exact ⟨(hr.2 a e9 ha').1, (hr.2 a e9 ha').2.kept (hold a (hr.lt ha'))⟩
    · rw [hold q (Nat.lt_of_lt_of_le h1 hS.1)]
      exact hS.2.1 q h1 h2
/-- .. where the constructor names its superclass by another number -/
theorem I_throwX {ix : Nat} {rx : ByteArray} (x0 : decode rx 0 = .ok (.aload_n 0, 1)) (x1 : decode rx 1 = .ok (.aload_n 1, 1)) (x2 : decode rx 2 = .ok (.invokespecial ix, 3)) (x5 : decode rx 5 = .ok (.return_, 1)) {cls text : String} {names : List String} {ik is ic k : Nat} (d0 : decode (mC M) pc = .ok (.new ik, 3)) (d3 : decode (mC M) (pc + 3) = .ok (.dup, 1)) (d4 : decode (mC M) (pc + 4) = .ok (.ldc is, 2)) (d6 : decode (mC M) (pc + 6) = .ok (.invokespecial ic, 3)) (d9 : decode (mC M) (pc + 9) = .ok (.athrow, 1)) (hown : (mY M).cls = RX5) (hs : strs[k]? = some (is, text)) (hcls : Bundle.fit cls = true) (hnames : ∀ n ∈ names, Bundle.fit n = true) (hk : Cond.classLink RX5 ik cls ∈ TT) (hini : Cond.initialized cls ∈ TT) (hat : ∀ w ∈ vx_atX RX5 ic cls ix rx names, w ∈ TT ∨ w ∈ XT) (hgood : ∀ w ∈ Cond.classLink RX5 ik cls :: Cond.initialized cls :: vx_atX RX5 ic cls ix rx names, vx_ot w = true) (hE : mE M = []) (hF : names.length + 3 < mF M) (hW : (st.map fun v => v.category).sum + (13 * (names.length + 1) + 43) ≤ mW M) : I l g M cv pc lv st (thr cls) := by
  intro h y hy
  cases hy
  refine ⟨Nat.le_succ _, Nat.le_add_right _ _, ?_⟩
  intro p e s m args below meth c R H locs cells slots mc ms ls B f1 f2 f3 f4 f5 f6 hr hS hl
  have f3' : cells + (h.1 + 1 - h.1) ≤ mc := f3
  have f4' : slots + (h.2.1 + 6 - h.2.1) ≤ ms := f4
  have hts := B.2.2.2.2.1
  have hkn := B.2.2.2.2.2.2.2.2.2.1
  have ho := bO B
  have hown2 : s.vm.findClass RX5 = some m.cls := by rw [← hown]; exact B.2.2.2.1
  refine vx_throwX x0 x1 x2 x5 (sa := gsa g k) (names := names) B.1 B.2.1 B.2.2.2.2.2.2.2.2.2.2.2.2 hown2 hcls hnames (hts _ hk) (hts _ hini) (hkn.2.2.1 k _ hs) (fun w hw => ?_) hgood ho.2.2.2.2.1 ho.2.2.2.2.2 hS (by rw [B.2.2.1]; exact hl.1) d0 d3 d4 d6 d9 (by rw [B.2.2.2.2.2.2.2.2.1, hE]; intro x hx; cases hx) (by omega) (by omega) (by omega) (by omega) B.2.2.2.2.2.2.1 ?_ hS.2.2 (by omega) (by omega)
  · rcases hat w hw with q | q
    · exact hts w q
    · refine va_Nw.use ?_ (hkn.2.1 w q)
      have hi := (List.mem_filter.mp q).2
      cases w <;> first | rfl | (simp only [isXT] at hi; cases hi)
  · intro t hal hsz hold
    refine ⟨rfl, ⟨by rw [hsz, hr.1]; rfl, fun a e9 ha => ?_⟩, ⟨by rw [hsz]; have := hS.1; omega, fun q h1 h2 => ?_⟩⟩
    · have ha' : h.2.2 a = some e9 := ha
      exact ⟨(hr.2 a e9 ha').1, (hr.2 a e9 ha').2.kept (hold a (hr.lt ha'))⟩
    · rw [hold q (Nat.lt_of_lt_of_le h1 hS.1)]
      exact hS.2.1 q h1 h2
end CALL
