/-! methods with handlers, and their calls -/
def wsMW (z : MS) (hh : List (Nat × Nat × Nat × Nat)) : List Cond := Cond.codeWith (mY z) (mC z) (mL z) (mR z) hh :: TT
def CsW {β : Type} (l : Launch) (g : GX) (z : MS) (hh : List (Nat × Nat × Nat × Nat)) (cvz : β → Option Value) (av : List Value) (op : Mo β) : Prop := ∀ (h : AH) (y : (β ⊕ String) × AH), op h = some y → h.1 ≤ y.2.1 ∧ h.2.1 ≤ y.2.2.1 ∧ vx_Met l (mY z) (wsMW z hh) { frames := mF z, cells := y.2.1 - h.1, slots := y.2.2.1 - h.2.1, locals := mW z } (va_Pc av (wd g h)) (QP g (cvR cvz y)) (XP g (cvR cvz y)) (y.2.1 - h.1) (y.2.2.1 - h.2.1) (gA g)
set_option maxRecDepth 20000 in
theorem CsW_of_I {β : Type} {l : Launch} {g : GX} {z : MS} {hh : List (Nat × Nat × Nat × Nat)} {cvz : β → Option Value} {av : List Value} {op : Mo β} (lv : List (Nat × Value)) (hE : mE z = tableOf hh) (hpl : plainName (mY z).cls = true) (hst : l.stackTraces = false) (hargs : (lg_sl av).length ≤ mL z) (hlv : lv_args 0 av = lv) (hI : I l g z cvz 0 lv [] op) : CsW l g z hh cvz av op := by
  intro h y hy
  obtain ⟨a, b, w⟩ := hI h y hy
  refine ⟨a, b, ?_⟩
  refine vx_ofWH (cc := mC z) (maxL := mL z) (ret := mR z) (hh := hh) hpl rfl ?_
  intro p e s m args below meth c s₁ B hml hv
  obtain ⟨rfl, hr, hk, ho, hB⟩ := hv
  have hts := atoms_spec (ws := wsMW z hh) B.pre
  have hown : s.vm.findClass (mY z).cls = some m.cls := findClass_of_methodNamed B.named
  have hl := lv_entry av (n := mL z) hargs
  rw [hlv] at hl
  rw [lg_entry_eq]
  generalize (lg_sl av ++ List.replicate (mL z - (lg_sl av).length) Slot.unset).toArray = ls at hl ⊢
  have hx : c.exceptionTable.toList = mE z := by
    rw [hE]
    exact vx_table (x := mY z) B (hts _ List.mem_cons_self)
  exact w p e s m _ below meth c _ s.heap [] 0 0 _ _ ls ⟨B.exec, B.bytes, hml, hown, fun w hw => hts w (List.mem_cons_of_mem _ hw), B.returns, B.notSynchronized, (name_of_methodNamed B.named B.method).1, hx, hk, ho, hB, hst⟩ (Nat.le_refl _) (Nat.le_refl _) (by show 0 + (y.2.1 - h.1) ≤ _; omega) (by show 0 + (y.2.2.1 - h.2.1) ≤ _; omega) (Nat.le_refl _) (Nat.le_refl _) hr va_S.rf hl
section CATCH
variable {α β : Type} {l : Launch} {g : GX} {M z : MS} {cv : α → Option Value} {cvz : β → Option Value} {pc : Nat} {lv lv' : List (Nat × Value)} {st st' rest As : List Value} {op : Mo β} {f : β → Mo α} {b index : Nat}
theorem goodMW {hh : List (Nat × Nat × Nat × Nat)} (hc : Cond.codeWith (mY z) (mC z) (mL z) (mR z) hh ∈ TT) : GoodIn TT (wsMW z hh) := fun w hw => by
  rcases List.mem_cons.mp hw with h | h
  · subst h; exact TT_good _ hc
  · exact TT_good _ h
theorem I_callSiX {op : Mo Int32} {f : Int32 → Mo α} {hh : List (Nat × Nat × Nat × Nat)} (pc' : Nat) (hC : CsW l g z hh cvI As op) (hd : decode (mC M) pc = .ok (.invokestatic index, 3)) (hp : pc + 3 = pc') (hst : st = As.reverse ++ rest) (hroom : mF z + 1 ≤ mF M ∧ 8 + (mL z + 11) + mW z ≤ mW M) (hcat : (rest.map fun v => v.category).sum ≤ 8) (hc : Cond.codeWith (mY z) (mC z) (mL z) (mR z) hh ∈ TT) (hi : Cond.initialized (mY z).cls ∈ TT) (hl : Cond.methodLink (mY M).cls index (mY z) ∈ TT) (hsc : Cond.static (mY z) ∈ TT)
    (hdd : (mY z).cls ≠ "java/lang/invoke/MethodHandle" ∧ (mY z).cls ≠ "java/lang/invoke/VarHandle" ∧ (parseMethodDescriptor (mY z).desc).map (fun d => d.parameters.length) = some As.length) (hout : ∀ x ∈ mE M, covers x pc = false) (kk : ∀ v, I l g M cv pc' lv (.int v :: rest) (f v)) : I l g M cv pc lv st (bnd op f) := by
  subst hp
  refine I_run (cvz := cvI) (rest := rest) (av := As.toArray) (fun h y hy => ?_) hout kk
  obtain ⟨n1, n2, hM⟩ := hC h y hy
  refine ⟨n1, n2, ?_⟩
  intro p e s m args below meth c R H locs cells slots ls B hr hS f1 f2 hlv k1 k2
  have hts := B.2.2.2.2.1
  refine vx_runSX (g := F0 m pc ls st) (As := As) (hh := hh) (n := As.length) ⟨B.1, B.2.1, B.2.2.1, B.2.2.2.1, hts⟩ hM ⟨⟨rfl, rfl, Nat.le_trans hroom.1 f1, Nat.le_trans hroom.2 f2, pay_in hts (goodMW hc), List.mem_cons_self⟩, hts _ hc, hts _ hi, ⟨hdd.1, hdd.2.1⟩, fun sig h => ?_, hts _ hl, hts _ hsc⟩ ⟨wd_blind, fun U hU hW => ⟨rfl, wd_at B hr hS hU hW⟩⟩ rfl rfl hlv.1 hst (lv_room hcat) hd ⟨k1, k2⟩
  have h2 := hdd.2.2
  rw [h] at h2
  exact (Option.some.inj h2).symm
/-- E, thrown over pc, is caught at hpc -/
def ctch (l : Launch) (g : GX) (M : MS) (pc : Nat) (E : String) (hpc : Nat) : Prop := ∀ (p : Program) (e : Env) (R : Room) (s : State) (m : MethodId) (args : Array Value) (below : List Frame) (meth : Method) (c : Code) (H : Heap) (locs : List Loc) (cells slots : Nat) (Q : State → Prop) (ls : Array Slot) (rest : List Value) (q : Addr) (ce : Cell), bdy l g M p s m args meth c → H[q]? = some ce → ce.vm = .none → s.vm.findClass E = some ce.cls → W p l e R s m args below meth c H locs cells slots Q (F0 m hpc ls [.ref q]) → vx_W p l e R s m args below meth c H locs cells slots Q (F0 m pc ls rest) q
theorem I_runC {av : Array Value} {hd : String → Mo α} (hm : ∀ (h : AH) (y : (β ⊕ String) × AH), op h = some y → h.1 ≤ y.2.1 ∧ h.2.1 ≤ y.2.2.1 ∧ ∀ (p : Program) (e : Env) (s : State) (m : MethodId) (args : Array Value) (below : List Frame) (meth : Method) (c : Code) (R : Room) (H : Heap) (locs : List Loc) (cells slots : Nat) (ls : Array Slot), bdy l g M p s m args meth c → rep g h H → va_S (gA g) s.heap H locs → mF M ≤ R.frames → mW M ≤ R.locals → lv_has ls (mL M) lv → cells + (y.2.1 - h.1) ≤ R.cells → slots + (y.2.2.1 - h.2.1) ≤ R.slots →
      vx_Run p l e R s m args below meth c H locs cells slots (y.2.1 - h.1) (y.2.2.1 - h.2.1) (F0 m pc ls st) rest (QP g (cvR cvz y) av) (XP g (cvR cvz y)) (gA g))
    (kx : ∀ E, hd E = flr ∨ ∃ hpc, ctch l g M pc E hpc ∧ ∀ q, I l g M cv hpc lv [.ref q] (hd E)) (kk : ∀ v, I l g M cv (pc + 3) lv ((cvz v).toList ++ rest) (f v)) : I l g M cv pc lv st (ctc op f hd) := by
  intro h y hy
  unfold ctc at hy
  cases hz : op h with
  | none => rw [hz] at hy; cases hy
  | some y1 =>
    obtain ⟨n1, n2, hrun⟩ := hm h y1 hz
    rw [hz] at hy
    obtain ⟨r1, h1⟩ := y1
    have n1' : h.1 ≤ h1.1 := n1
    have n2' : h.2.1 ≤ h1.2.1 := n2
    cases r1 with
    | inl v =>
      obtain ⟨m1, m2, w⟩ := kk v h1 y hy
      refine ⟨Nat.le_trans n1' m1, Nat.le_trans n2' m2, ?_⟩
      intro p e s m args below meth c R H locs cells slots mc ms ls B f1 f2 f3 f4 f5 f6 hr hS hl T hT X
      have k1 : cells + (h1.1 - h.1) ≤ R.cells := by omega
      have k2 : slots + (h1.2.1 - h.2.1) ≤ R.slots := by omega
      rcases hrun p e s m args below meth c R H locs cells slots ls B hr hS f1 f2 hl k1 k2 T hT X with ⟨v9, st₀, t, T', L, h0, X', hL, e1, e2, ⟨v8, q1, q2, q3, q4⟩, stp⟩ | ⟨q, st₀, t, T', L, E, ce, h0, X', hL, e1, e2, ⟨q1, -⟩, -⟩
      · cases q1
        cases q2
        obtain ⟨-, -, k3⟩ := vx_keep h0 e1 hS (fun _ _ q => q) (fun _ q => q) hL q4
        obtain ⟨t2, a1, b1⟩ := w p e s m args below meth c R T'.heap (locs ++ L) _ _ mc ms ls B f1 f2 (by show cells + (h1.1 - h.1) + _ ≤ _; omega) (by show slots + (h1.2.1 - h.2.1) + _ ≤ _; omega) f5 f6 (by rw [e1]; exact q3) k3 hl T' rfl X'
        exact ⟨t2, stp t2 a1, b1⟩
      · cases q1
    | inr E =>
      rcases kx E with k0 | ⟨hpc, hct, k0⟩
      · dsimp only at hy
        rw [k0] at hy
        cases hy
      · have hv := fun q => k0 q h1 y hy
        obtain ⟨m1, m2, -⟩ := hv 0
        refine ⟨Nat.le_trans n1' m1, Nat.le_trans n2' m2, ?_⟩
        intro p e s m args below meth c R H locs cells slots mc ms ls B f1 f2 f3 f4 f5 f6 hr hS hl T hT X
        have k1 : cells + (h1.1 - h.1) ≤ R.cells := by omega
        have k2 : slots + (h1.2.1 - h.2.1) ≤ R.slots := by omega
        rcases hrun p e s m args below meth c R H locs cells slots ls B hr hS f1 f2 hl k1 k2 T hT X with ⟨v9, st₀, t, T', L, h0, X', hL, e1, e2, ⟨v8, q1, q2, q3, q4⟩, stp⟩ | ⟨q, st₀, t, T', L, E9, ce, h0, X', hL, e1, e2, ⟨q1, q3, q4⟩, hce, hcv, hcl, stp⟩
        · cases q1
        · cases q1
          obtain ⟨-, -, k3⟩ := vx_keep h0 e1 hS (fun _ _ q => q) (fun _ q => q) hL q4
          obtain ⟨-, -, w⟩ := hv q
          have wq := w p e s m args below meth c R T'.heap (locs ++ L) _ _ mc ms ls B f1 f2 (by show cells + (h1.1 - h.1) + _ ≤ _; omega) (by show slots + (h1.2.1 - h.2.1) + _ ≤ _; omega) f5 f6 (by rw [e1]; exact q3) k3 hl
          obtain ⟨t2, a1, b1⟩ := hct p e R s m args below meth c T'.heap (locs ++ L) _ _ _ ls rest q ce B (by rw [e1]; exact hce) hcv hcl wq T' rfl X'
          exact ⟨t2, stp.trans a1, b1⟩
theorem I_callVc {ci N : Nat} {T : u_T} {ty : Nat → FieldType} {hd : String → Mo α} (hC : Cs l g z cvz (.ref b :: As) op) (hdc : decode (mC M) pc = .ok (.invokevirtual index, 3)) (hcl : clOK ci (mY z).cls T N ty) (hst : st = As.reverse ++ .ref b :: rest) (hroom : mF z + 1 ≤ mF M ∧ 8 + (mL z + 11) + mW z ≤ mW M) (hcat : (rest.map fun v => v.category).sum ≤ 8) (hc : Cond.code (mY z) (mC z) (mL z) (mR z) ∈ TT) (hi : Cond.initialized (mY z).cls ∈ TT) (hl : Cond.methodLink (mY M).cls index (mY z) ∈ TT) (hin : Cond.instanceMethod (mY z) ∈ TT) (hse : Cond.selects (mY z).cls (mY z) (mY z) ∈ TT)
    (hdd : (mY z).cls ≠ "java/lang/invoke/MethodHandle" ∧ (mY z).cls ≠ "java/lang/invoke/VarHandle" ∧ (parseMethodDescriptor (mY z).desc).map (fun d => d.parameters.length) = some As.length) (kx : ∀ E, hd E = flr ∨ ∃ hpc, ctch l g M pc E hpc ∧ ∀ q, I l g M cv hpc lv [.ref q] (hd E)) (kk : ∀ v, I l g M cv (pc + 3) lv ((cvz v).toList ++ rest) (f v)) : I l g M cv pc lv st (ctc (vc b ci op) f hd) := by
  refine I_runC (cvz := cvz) (rest := rest) (av := (Value.ref b :: As).toArray) (fun h y hy => ?_) kx kk
  obtain ⟨fs, h1, h2⟩ := vc_some hy
  obtain ⟨n1, n2, hM⟩ := hC h y h2
  refine ⟨n1, n2, ?_⟩
  intro p e s m args below meth c R H locs cells slots ls B hr hS f1 f2 hlv k1 k2
  exact vx_runV (g := F0 m pc ls st) (As := As) (b := b) ⟨B.1, B.2.1, B.2.2.1, B.2.2.2.1, B.2.2.2.2.1⟩ hM ⟨callB_at B f1 f2 hroom hc hi hl hdd, B.2.2.2.2.1 _ hin, B.2.2.2.2.1 _ hse⟩ ⟨wd_blind, va_recv (bB B) (hr.P h1) hcl.1 (q0 := 0) rfl, fun U hU hW => ⟨rfl, wd_at B hr hS hU hW⟩⟩ rfl rfl hlv.1 hst (lv_room hcat) hdc ⟨k1, k2⟩
theorem ctch_1 {x : ExceptionTableEntry} {suf : List ExceptionTableEntry} {E : String} (hE : mE M = x :: suf) (hx : covers x pc = true) (h0 : x.catchType ≠ 0) (hl : Cond.classLink (mY M).cls x.catchType E ∈ TT) (hc : Cond.castable E E ∈ XT) : ctch l g M pc E x.handlerPc := by
  intro p e R s m args below meth c H locs cells slots Q ls rest q ce B hcell hv hcl w
  exact vx_catch (own := (mY M).cls) (name := E) B.2.2.2.1 [] x suf (by rw [B.2.2.2.2.2.2.2.2.1, hE]; rfl) (fun z hz => nomatch hz) hx h0 (B.2.2.2.2.1 _ hl) (va_Nw.use rfl (B.2.2.2.2.2.2.2.2.2.1.2.1 _ hc)) hcell hv hcl w
theorem ctch_2 {x0 x : ExceptionTableEntry} {suf : List ExceptionTableEntry} (hE : mE M = x0 :: x :: suf) (hx : covers x pc = true) (h00 : x0.catchType ≠ 0) (hl0 : Cond.classLink (mY M).cls x0.catchType "java/util/NoSuchElementException" ∈ TT) (h0 : x.catchType ≠ 0) (hl : Cond.classLink (mY M).cls x.catchType "java/lang/IllegalArgumentException" ∈ TT) : ctch l g M pc "java/lang/IllegalArgumentException" x.handlerPc := by
  intro p e R s m args below meth c H locs cells slots Q ls rest q ce B hcell hv hcl w
  refine vx_catch (own := (mY M).cls) (name := "java/lang/IllegalArgumentException") B.2.2.2.1 [x0] x suf (by rw [B.2.2.2.2.2.2.2.2.1, hE]; rfl) (fun z hz => ?_) hx h0 (B.2.2.2.2.1 _ hl) (va_Nw.use rfl (B.2.2.2.2.2.2.2.2.2.1.2.1 _ xc_A)) hcell hv hcl w
  rw [List.mem_singleton.mp hz]
  exact Or.inr ⟨h00, _, B.2.2.2.2.1 _ hl0, B.2.2.2.2.2.2.2.2.2.1.2.2.2.2.2.2⟩
end CATCH
section CATCH2
variable {α : Type} {l : Launch} {g : GX} {M z : MS} {cv : α → Option Value} {pc : Nat} {lv : List (Nat × Value)} {st rest As : List Value} {b index : Nat}
theorem I_callVc1 {op : Mo Int32} {f : Int32 → Mo α} {ci N : Nat} {T : u_T} {ty : Nat → FieldType} {nm : String} {x : ExceptionTableEntry} {K : Mo α} (pc' : Nat) (hC : Cs l g z cvI (.ref b :: As) op) (hdc : decode (mC M) pc = .ok (.invokevirtual index, 3)) (hp : pc + 3 = pc') (hcl : clOK ci (mY z).cls T N ty) (hst : st = As.reverse ++ .ref b :: rest) (hroom : mF z + 1 ≤ mF M ∧ 8 + (mL z + 11) + mW z ≤ mW M) (hcat : (rest.map fun v => v.category).sum ≤ 8) (hc : Cond.code (mY z) (mC z) (mL z) (mR z) ∈ TT) (hi : Cond.initialized (mY z).cls ∈ TT) (hl : Cond.methodLink (mY M).cls index (mY z) ∈ TT) (hin : Cond.instanceMethod (mY z) ∈ TT) (hse : Cond.selects (mY z).cls (mY z) (mY z) ∈ TT)
    (hdd : (mY z).cls ≠ "java/lang/invoke/MethodHandle" ∧ (mY z).cls ≠ "java/lang/invoke/VarHandle" ∧ (parseMethodDescriptor (mY z).desc).map (fun d => d.parameters.length) = some As.length) (hE : mE M = [x]) (hx : covers x pc = true) (h0 : x.catchType ≠ 0) (hlx : Cond.classLink (mY M).cls x.catchType nm ∈ TT) (hcx : Cond.castable nm nm ∈ XT) (kk : ∀ v, I l g M cv pc' lv (.int v :: rest) (f v)) (kx : ∀ q, I l g M cv x.handlerPc lv [.ref q] K) : I l g M cv pc lv st (ctc (vc b ci op) f (fun E => if E = nm then K else flr)) := by
  subst hp
  refine I_callVc hC hdc hcl hst hroom hcat hc hi hl hin hse hdd (fun E => ?_) kk
  by_cases q : E = nm
  · subst q
    exact Or.inr ⟨_, ctch_1 hE hx h0 hlx hcx, fun q => by rw [if_pos rfl]; exact kx q⟩
  · exact Or.inl (if_neg q)
theorem I_callVc2 {op : Mo Int32} {f : Int32 → Mo α} {ci N : Nat} {T : u_T} {ty : Nat → FieldType} {x0 x : ExceptionTableEntry} {K0 K : Mo α} (pc' : Nat) (hC : Cs l g z cvI (.ref b :: As) op) (hdc : decode (mC M) pc = .ok (.invokevirtual index, 3)) (hp : pc + 3 = pc') (hcl : clOK ci (mY z).cls T N ty) (hst : st = As.reverse ++ .ref b :: rest) (hroom : mF z + 1 ≤ mF M ∧ 8 + (mL z + 11) + mW z ≤ mW M) (hcat : (rest.map fun v => v.category).sum ≤ 8) (hc : Cond.code (mY z) (mC z) (mL z) (mR z) ∈ TT) (hi : Cond.initialized (mY z).cls ∈ TT) (hl : Cond.methodLink (mY M).cls index (mY z) ∈ TT) (hin : Cond.instanceMethod (mY z) ∈ TT) (hse : Cond.selects (mY z).cls (mY z) (mY z) ∈ TT)
    (hdd : (mY z).cls ≠ "java/lang/invoke/MethodHandle" ∧ (mY z).cls ≠ "java/lang/invoke/VarHandle" ∧ (parseMethodDescriptor (mY z).desc).map (fun d => d.parameters.length) = some As.length) (hE : mE M = [x0, x]) (hx0 : covers x0 pc = true) (h00 : x0.catchType ≠ 0) (hx : covers x pc = true) (h0 : x.catchType ≠ 0) (hl0 : Cond.classLink (mY M).cls x0.catchType "java/util/NoSuchElementException" ∈ TT) (hlx : Cond.classLink (mY M).cls x.catchType "java/lang/IllegalArgumentException" ∈ TT) (kk : ∀ v, I l g M cv pc' lv (.int v :: rest) (f v)) (kx0 : ∀ q, I l g M cv x0.handlerPc lv [.ref q] K0) (kx : ∀ q, I l g M cv x.handlerPc lv [.ref q] K) : I l g M cv pc lv st (ctc (vc b ci op) f (fun E => if E = "java/util/NoSuchElementException" then K0 else if E = "java/lang/IllegalArgumentException" then K else flr)) := by
  subst hp
  refine I_callVc hC hdc hcl hst hroom hcat hc hi hl hin hse hdd (fun E => ?_) kk
  by_cases q : E = "java/util/NoSuchElementException"
  · subst q
    exact Or.inr ⟨_, ctch_1 hE hx0 h00 hl0 xc_N, fun q => by rw [if_pos rfl]; exact kx0 q⟩
  · by_cases q2 : E = "java/lang/IllegalArgumentException"
    · subst q2
      exact Or.inr ⟨_, ctch_2 hE hx h00 hl0 h0 hlx, fun q => by rw [if_neg (by decide), if_pos rfl]; exact kx q⟩
    · exact Or.inl (by rw [if_neg q, if_neg q2])
end CATCH2
/-! Math.max, Math.min -/
def mx (x y : Int32) : Int32 := if x < y then y else x
def mn (x y : Int32) : Int32 := if y < x then y else x
theorem mmw1 : Cond.static Lib.Math.max.name ∈ TT := by decide +kernel
theorem mmw2 : Cond.static Lib.Math.min.name ∈ TT := by decide +kernel
theorem mmw3 : Cond.initialized "java/lang/Math" ∈ TT := by decide +kernel
theorem mmw4 : Cond.code Lib.Math.max.name Lib.Math.max.code 2 (some .int) ∈ TT := by decide +kernel
theorem mmw5 : Cond.code Lib.Math.min.name Lib.Math.min.code 2 (some .int) ∈ TT := by decide +kernel
section MATH
variable {α : Type} {l : Launch} {g : GX} {M : MS} {cv : α → Option Value} {pc : Nat} {lv : List (Nat × Value)} {rest : List Value} {index : Nat} {K : Mo α} {x y : Int32}
theorem I_mmax (pc' : Nat) (hd : decode (mC M) pc = .ok (.invokestatic index, 3)) (hp : pc + 3 = pc') (hl : Cond.methodLink (mY M).cls index Lib.Math.max.name ∈ TT) (hf : 1 ≤ mF M) (hw : (rest.map fun v => v.category).sum + 13 ≤ mW M) (k : I l g M cv pc' lv (.int (mx x y) :: rest) K) : I l g M cv pc lv (.int y :: .int x :: rest) K := by
  subst hp
  intro h z hz
  obtain ⟨a, b, w⟩ := k h z hz
  refine ⟨a, b, ?_⟩
  intro p e s m args below meth c R H locs cells slots mc ms ls B f1 f2 f3 f4 f5 f6 hr hS hlv
  have hts := B.2.2.2.2.1
  exact va_mmax B.1 B.2.1 (by rw [B.2.2.1]; exact hlv.1.symm) B.2.2.2.1 (hts _ hl) (hts _ mmw1) (hts _ mmw3) (hts _ mmw4) (Nat.le_trans hf f1) (Nat.le_trans hw f2) (by omega) (by omega) hd (w p e s m args below meth c R H locs cells slots mc ms ls B f1 f2 f3 f4 f5 f6 hr hS hlv)
theorem I_mmin (pc' : Nat) (hd : decode (mC M) pc = .ok (.invokestatic index, 3)) (hp : pc + 3 = pc') (hl : Cond.methodLink (mY M).cls index Lib.Math.min.name ∈ TT) (hf : 1 ≤ mF M) (hw : (rest.map fun v => v.category).sum + 13 ≤ mW M) (k : I l g M cv pc' lv (.int (mn x y) :: rest) K) : I l g M cv pc lv (.int y :: .int x :: rest) K := by
  subst hp
  intro h z hz
  obtain ⟨a, b, w⟩ := k h z hz
  refine ⟨a, b, ?_⟩
  intro p e s m args below meth c R H locs cells slots mc ms ls B f1 f2 f3 f4 f5 f6 hr hS hlv
  have hts := B.2.2.2.2.1
  exact va_mmin B.1 B.2.1 (by rw [B.2.2.1]; exact hlv.1.symm) B.2.2.2.1 (hts _ hl) (hts _ mmw2) (hts _ mmw3) (hts _ mmw5) (Nat.le_trans hf f1) (Nat.le_trans hw f2) (by omega) (by omega) hd (w p e s m args below meth c R H locs cells slots mc ms ls B f1 f2 f3 f4 f5 f6 hr hS hlv)
end MATH
