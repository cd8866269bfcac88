/-! calls by what they answer; more rows for the lists' own methods -/
section CALL2
variable {α : Type} {l : Launch} {g : GX} {M z : MS} {cv : α → Option Value} {pc : Nat} {lv lv' : List (Nat × Value)} {st st' rest As : List Value} {b index : Nat}
theorem I_callVi {op : Mo Int32} {f : Int32 → Mo α} {ci N : Nat} {T : u_T} {ty : Nat → FieldType} (pc' : Nat) (hC : Cs l g z cvI (.ref b :: As) op) (hd : decode (mC M) pc = .ok (.invokevirtual index, 3)) (hp : pc + 3 = pc') (hcl : clOK ci (mY z).cls T N ty) (hst : st = As.reverse ++ .ref b :: rest) (hroom : mF z + 1 ≤ mF M ∧ 8 + (mL z + 11) + mW z ≤ mW M) (hcat : (rest.map fun v => v.category).sum ≤ 8) (hc : Cond.code (mY z) (mC z) (mL z) (mR z) ∈ TT) (hi : Cond.initialized (mY z).cls ∈ TT) (hl : Cond.methodLink (mY M).cls index (mY z) ∈ TT) (hin : Cond.instanceMethod (mY z) ∈ TT) (hse : Cond.selects (mY z).cls (mY z) (mY z) ∈ TT) (hdd : (mY z).cls ≠ "java/lang/invoke/MethodHandle" ∧ (mY z).cls ≠ "java/lang/invoke/VarHandle" ∧ (parseMethodDescriptor (mY z).desc).map (fun d => d.parameters.length) = some As.length) (hout : ∀ x ∈ mE M, covers x pc = false) (kk : ∀ v, I l g M cv pc' lv (.int v :: rest) (f v)) : I l g M cv pc lv st (bnd (vc b ci op) f) := by
  subst hp
  exact I_callV hC hd hcl hst hroom hcat hc hi hl hin hse hdd hout kk
theorem I_callSi {op : Mo Int32} {f : Int32 → Mo α} (pc' : Nat) (hC : Cs l g z cvI As op) (hd : decode (mC M) pc = .ok (.invokestatic index, 3)) (hp : pc + 3 = pc') (hst : st = As.reverse ++ rest) (hroom : mF z + 1 ≤ mF M ∧ 8 + (mL z + 11) + mW z ≤ mW M) (hcat : (rest.map fun v => v.category).sum ≤ 8) (hc : Cond.code (mY z) (mC z) (mL z) (mR z) ∈ TT) (hi : Cond.initialized (mY z).cls ∈ TT) (hl : Cond.methodLink (mY M).cls index (mY z) ∈ TT) (hsc : Cond.static (mY z) ∈ TT) (hdd : (mY z).cls ≠ "java/lang/invoke/MethodHandle" ∧ (mY z).cls ≠ "java/lang/invoke/VarHandle" ∧ (parseMethodDescriptor (mY z).desc).map (fun d => d.parameters.length) = some As.length) (hout : ∀ x ∈ mE M, covers x pc = false) (kk : ∀ v, I l g M cv pc' lv (.int v :: rest) (f v)) : I l g M cv pc lv st (bnd op f) := by
  subst hp
  exact I_callS hC hd hst hroom hcat hc hi hl hsc hdd hout kk
theorem I_callVa {op : Mo Nat} {f : Nat → Mo α} {ci N : Nat} {T : u_T} {ty : Nat → FieldType} (pc' : Nat) (hC : Cs l g z cvA (.ref b :: As) op) (hd : decode (mC M) pc = .ok (.invokevirtual index, 3)) (hp : pc + 3 = pc') (hcl : clOK ci (mY z).cls T N ty) (hst : st = As.reverse ++ .ref b :: rest) (hroom : mF z + 1 ≤ mF M ∧ 8 + (mL z + 11) + mW z ≤ mW M) (hcat : (rest.map fun v => v.category).sum ≤ 8) (hc : Cond.code (mY z) (mC z) (mL z) (mR z) ∈ TT) (hi : Cond.initialized (mY z).cls ∈ TT) (hl : Cond.methodLink (mY M).cls index (mY z) ∈ TT) (hin : Cond.instanceMethod (mY z) ∈ TT) (hse : Cond.selects (mY z).cls (mY z) (mY z) ∈ TT) (hdd : (mY z).cls ≠ "java/lang/invoke/MethodHandle" ∧ (mY z).cls ≠ "java/lang/invoke/VarHandle" ∧ (parseMethodDescriptor (mY z).desc).map (fun d => d.parameters.length) = some As.length) (hout : ∀ x ∈ mE M, covers x pc = false) (kk : ∀ v, I l g M cv pc' lv (.ref v :: rest) (f v)) : I l g M cv pc lv st (bnd (vc b ci op) f) := by
  subst hp
  exact I_callV hC hd hcl hst hroom hcat hc hi hl hin hse hdd hout kk
theorem I_callSa {op : Mo Nat} {f : Nat → Mo α} (pc' : Nat) (hC : Cs l g z cvA As op) (hd : decode (mC M) pc = .ok (.invokestatic index, 3)) (hp : pc + 3 = pc') (hst : st = As.reverse ++ rest) (hroom : mF z + 1 ≤ mF M ∧ 8 + (mL z + 11) + mW z ≤ mW M) (hcat : (rest.map fun v => v.category).sum ≤ 8) (hc : Cond.code (mY z) (mC z) (mL z) (mR z) ∈ TT) (hi : Cond.initialized (mY z).cls ∈ TT) (hl : Cond.methodLink (mY M).cls index (mY z) ∈ TT) (hsc : Cond.static (mY z) ∈ TT) (hdd : (mY z).cls ≠ "java/lang/invoke/MethodHandle" ∧ (mY z).cls ≠ "java/lang/invoke/VarHandle" ∧ (parseMethodDescriptor (mY z).desc).map (fun d => d.parameters.length) = some As.length) (hout : ∀ x ∈ mE M, covers x pc = false) (kk : ∀ v, I l g M cv pc' lv (.ref v :: rest) (f v)) : I l g M cv pc lv st (bnd op f) := by
  subst hp
  exact I_callS hC hd hst hroom hcat hc hi hl hsc hdd hout kk
theorem I_callVv {op : Mo Unit} {f : Unit → Mo α} {ci N : Nat} {T : u_T} {ty : Nat → FieldType} (pc' : Nat) (hC : Cs l g z cvU (.ref b :: As) op) (hd : decode (mC M) pc = .ok (.invokevirtual index, 3)) (hp : pc + 3 = pc') (hcl : clOK ci (mY z).cls T N ty) (hst : st = As.reverse ++ .ref b :: rest) (hroom : mF z + 1 ≤ mF M ∧ 8 + (mL z + 11) + mW z ≤ mW M) (hcat : (rest.map fun v => v.category).sum ≤ 8) (hc : Cond.code (mY z) (mC z) (mL z) (mR z) ∈ TT) (hi : Cond.initialized (mY z).cls ∈ TT) (hl : Cond.methodLink (mY M).cls index (mY z) ∈ TT) (hin : Cond.instanceMethod (mY z) ∈ TT) (hse : Cond.selects (mY z).cls (mY z) (mY z) ∈ TT) (hdd : (mY z).cls ≠ "java/lang/invoke/MethodHandle" ∧ (mY z).cls ≠ "java/lang/invoke/VarHandle" ∧ (parseMethodDescriptor (mY z).desc).map (fun d => d.parameters.length) = some As.length) (hout : ∀ x ∈ mE M, covers x pc = false) (kk : ∀ v, I l g M cv pc' lv (rest) (f v)) : I l g M cv pc lv st (bnd (vc b ci op) f) := by
  subst hp
  exact I_callV hC hd hcl hst hroom hcat hc hi hl hin hse hdd hout kk
theorem I_callSv {op : Mo Unit} {f : Unit → Mo α} (pc' : Nat) (hC : Cs l g z cvU As op) (hd : decode (mC M) pc = .ok (.invokestatic index, 3)) (hp : pc + 3 = pc') (hst : st = As.reverse ++ rest) (hroom : mF z + 1 ≤ mF M ∧ 8 + (mL z + 11) + mW z ≤ mW M) (hcat : (rest.map fun v => v.category).sum ≤ 8) (hc : Cond.code (mY z) (mC z) (mL z) (mR z) ∈ TT) (hi : Cond.initialized (mY z).cls ∈ TT) (hl : Cond.methodLink (mY M).cls index (mY z) ∈ TT) (hsc : Cond.static (mY z) ∈ TT) (hdd : (mY z).cls ≠ "java/lang/invoke/MethodHandle" ∧ (mY z).cls ≠ "java/lang/invoke/VarHandle" ∧ (parseMethodDescriptor (mY z).desc).map (fun d => d.parameters.length) = some As.length) (hout : ∀ x ∈ mE M, covers x pc = false) (kk : ∀ v, I l g M cv pc' lv (rest) (f v)) : I l g M cv pc lv st (bnd op f) := by
  subst hp
  exact I_callS hC hd hst hroom hcat hc hi hl hsc hdd hout kk
theorem I_init {op : Mo Unit} {f : Unit → Mo α} (pc' : Nat) (hC : Cs l g z cvU (.ref b :: As) op) (hno : noT op) (hd : decode (mC M) pc = .ok (.invokespecial index, 3)) (hp : pc + 3 = pc') (hret : mR z = none) (hst : st = As.reverse ++ .ref b :: rest) (hroom : mF z + 1 ≤ mF M ∧ 8 + (mL z + 11) + mW z ≤ mW M) (hcat : (rest.map fun v => v.category).sum ≤ 8) (hc : Cond.code (mY z) (mC z) (mL z) none ∈ TT) (hi : Cond.initialized (mY z).cls ∈ TT) (hl : Cond.methodLink (mY M).cls index (mY z) ∈ TT) (hin : Cond.instanceMethod (mY z) ∈ TT) (hy1 : (mY z).name = "<init>")
    (hdd : (mY z).cls ≠ "java/lang/invoke/MethodHandle" ∧ (mY z).cls ≠ "java/lang/invoke/VarHandle" ∧ (parseMethodDescriptor (mY z).desc).map (fun d => d.parameters.length) = some As.length) (kk : I l g M cv pc' lv rest (f ())) : I l g M cv pc lv st (bnd op f) := by
  subst hp
  exact I_callI hret hC hno hd hst hroom hcat hc hi hl hin hy1 hdd kk
theorem noT_bnd {β γ : Type} {m : Mo β} {f : β → Mo γ} (h1 : noT m) (h2 : ∀ v, noT (f v)) : noT (bnd m f) := by
  intro h E h9 e
  unfold bnd at e
  cases hz : m h with
  | none => rw [hz] at e; cases e
  | some y =>
    rw [hz] at e
    obtain ⟨r, h3⟩ := y
    cases r with
    | inl v => exact h2 v h3 E h9 e
    | inr E2 => exact h1 h E2 h3 hz
theorem noT_rt {β : Type} {v : β} : noT (rt v) := fun h E h9 e => by cases e
theorem noT_flr {β : Type} : noT (flr : Mo β) := fun h E h9 e => by cases e
theorem noT_pV {a ci k : Nat} {v : Value} : noT (pV a ci k v) := fun h E h9 e => by obtain ⟨fs, -, -, q⟩ := pV_some e; cases q
theorem noT_pZ {a ci k : Nat} {v : Int32} : noT (pZ a ci k v) := fun h E h9 e => by
  unfold pZ at e
  split at e
  · exact noT_pV h E h9 e
  · cases e
theorem noT_newO {ci N : Nat} {fs : List Value} : noT (newO ci N fs) := fun h E h9 e => by cases e
theorem noT_newK {k : Nat} {c : (Nat → Int32) ⊕ (Nat → Int64) ⊕ (Nat → UInt32) ⊕ (Nat → UInt64) ⊕ (Nat → Option Nat)} {n : Int32} : noT (newK k c n) := fun h E h9 e => by
  unfold newK at e
  split at e <;> cases e
theorem noT_gA {a ci k : Nat} : noT (gA' a ci k) := fun h E h9 e => by
  unfold gA' at e
  split at e <;> cases e
theorem noT_gI {a ci k : Nat} : noT (gI a ci k) := fun h E h9 e => by
  unfold gI at e
  split at e <;> cases e
/-- aastore into a list's array -/
theorem I_aast {v : Nat} {i : Int32} {a : Nat} {f : Unit → Mo α} (pc' : Nat) (hd : decode (mC M) pc = .ok (.aastore, 1)) (hp : pc + 1 = pc') (h1 : Cond.castable "LunchMarks$Box" "java/lang/Object" ∈ XT) (h4 : Cond.castable "LunchMarks$Train" "java/lang/Object" ∈ XT) (kk : I l g M cv pc' lv st (f ())) : I l g M cv pc lv (.ref v :: .int i :: .ref a :: st) (bnd (stR a i v) f) := by
  subst hp
  refine I_wr (sv := fun _ => st) (fun h z hz => ?_) (fun _ => kk)
  unfold stR at hz
  split at hz
  · rename_i k' n fx o ha hv
    split at hz
    · rename_i hc
      obtain ⟨rfl, h2, ho⟩ := hc
      have h2 := oobB_in h2
      cases hz
      refine ⟨(), _, rfl, hset_le.1, hset_le.2, ?_⟩
      intro p e s m args below meth c R H locs cells slots Q ls B hr hS _ _ _ _ _ w
      have hK := bB B
      have hkn := B.2.2.2.2.2.2.2.2.2.1
      have hany : va_Any "java/lang/Object" s H v := by
        obtain ⟨oc, ofs⟩ := o
        rcases ho with q | q
        · have q : oc = 1 := q
          subst q
          refine va_rAny (q0 := 0) hK (hr.P hv) rfl rfl (fun comp c0 e1 e2 => ?_)
          obtain ⟨c3, c4, f3, f4, f5⟩ := Cond.castable_spec (va_Nw.use (A := args) rfl (hkn.2.1 _ h1))
          cases Option.some.inj (e1.symm.trans f4)
          cases Option.some.inj (e2.symm.trans f3)
          exact f5
        · have q : oc = 4 := q
          subst q
          refine va_rAny (q0 := 0) hK (hr.P hv) rfl rfl (fun comp c0 e1 e2 => ?_)
          obtain ⟨c3, c4, f3, f4, f5⟩ := Cond.castable_spec (va_Nw.use (A := args) rfl (hkn.2.1 _ h4))
          cases Option.some.inj (e1.symm.trans f4)
          cases Option.some.inj (e2.symm.trans f3)
          exact f5
      have hlt : i.toNatClampNeg < n := Nat.not_le.mp fun q => h2 (Or.inr q)
      have h0 : ¬ i < 0 := fun q => h2 (Or.inl q)
      obtain ⟨cellV, g1, g3, ⟨kC, hkC⟩, hasg⟩ := hany
      obtain ⟨kA, comp, k1, k2, k3, -⟩ := (hK.2 3 _ rfl).2
      obtain ⟨kE, hkE, -⟩ := Vm.findClass_spec k3
      refine W.aast B.1 B.2.1 (hr.P ha 0 _ rfl) (fun q h => by cases h) (fun h => by cases h) k1 k2 rfl hkE ⟨h0, by show _ < (arrV _ _ _).slots.size; rw [arrV_size]; exact hlt⟩ g1 (fun q h => by rw [h] at g3; cases g3) hkC (hasg _ k3) rfl rfl hd fun H1 e1 z oq => ?_
      have hrep : rep g (hset h a (.inl (3, n, .inr (.inr (.inr (.inr (va_up fx i.toNatClampNeg (some v)))))))) H1 := by
        refine hr.set ha ?_ z oq
        show H1[a]? = some (vp_cell _ _)
        rw [e1, vp_cell_q]
        show some ((arrV _ _ _).setSlot _ _) = _
        rw [arrV_store]
        refine congrArg some ?_
        show arrV (gcy g 3) n _ = arrV (gcy g 3) n (fun j => va_rf (va_up fx i.toNatClampNeg (some v) j))
        congr 1
        funext q
        by_cases hq : q = i.toNatClampNeg
        · subst hq; simp [updV, va_up, va_rf]
        · simp [updV, va_up, hq]
      have := w H1 _ hrep (hS.put (k := i.toNatClampNeg) z oq (hr.2 a _ ha).1)
      simpa [hset] using this
    · cases hz
  · cases hz
end CALL2
