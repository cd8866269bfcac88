/-! rows for the lists' growing: arrays of arrays, getClass, a class's mirror, arraycopy; and methods with handlers -/
section JDK
variable {α : Type} {l : Launch} {g : GX} {M z : MS} {cv : α → Option Value} {pc : Nat} {lv lv' : List (Nat × Value)} {st st' rest As : List Value} {b index : Nat}
theorem str_II : ("[" ++ (FieldType.array .int).toString) = "[[I" := by decide
theorem I_newM {n k : Int32} {f : Nat → Mo α} (pc' : Nat) (hd : decode (mC M) pc = .ok (.multianewarray index 2, 4)) (hp : pc + 4 = pc') (hl : Cond.classLink (mY M).cls index "[[I" ∈ TT) (hw : Cond.arrayClass .int ∈ TT) (kk : ∀ v, I l g M cv pc' lv (.ref v :: st) (f v)) : I l g M cv pc lv (.int k :: .int n :: st) (bnd (newM n k) f) := by
  subst hp
  refine I_wr (sv := fun v => .ref v :: st) (fun h z e => ?_) kk
  unfold newM at e
  split at e
  · cases e
  rename_i hn
  cases e
  have hn1 : ¬ n < 0 := fun q => hn (Or.inl q)
  have hn2 : ¬ 1000 < n.toNatClampNeg := fun q => hn (Or.inr (Or.inl q))
  have hk1 : ¬ k < 0 := fun q => hn (Or.inr (Or.inr (Or.inl q)))
  have hk2 : ¬ 1000 < k.toNatClampNeg := fun q => hn (Or.inr (Or.inr (Or.inr q)))
  refine ⟨h.1, _, rfl, Nat.le_add_right _ _, Nat.le_add_right _ _, ?_⟩
  intro p e s m args below meth c R H locs cells slots Q ls B hr hS _ _ _ hcl hsl w T hT Xs
  have hK := bB B
  have hts := B.2.2.2.2.1
  generalize hN : n.toNatClampNeg = N at *
  generalize hM : k.toNatClampNeg = K' at *
  have e1 : h.1 + (1 + N) - h.1 = 1 + N := by omega
  have e2 : h.2.1 + (N + N * K') - h.2.1 = N + N * K' := by omega
  dsimp only at hcl hsl w
  rw [e1] at hcl w
  rw [e2] at hsl w
  have hcl2 : (Cond.classLink (mY M).cls index ("[" ++ (FieldType.array .int).toString)).before args s = true := by rw [str_II]; exact hts _ hl
  have hbk : k.toNatClampNeg * componentBytes .int ≤ 536870912 := by
    rw [hM]
    exact Nat.le_trans (Nat.mul_le_mul (Nat.not_lt.mp hk2) (show componentBytes .int ≤ 8 by decide)) (by decide)
  obtain ⟨vm₁, cA, comp, -, fA, fC, hO, -, X', step⟩ := Xs.multianewarray2F (ty := .int) B.1 B.2.2.2.1 hcl2 (va_AOA.use B.2.2.2.2.2.2.2.2.2.1.2.2.2.2.1) (hts _ hw) (g := F0 m pc ls (.int k :: .int n :: st)) rfl (by rw [B.2.1]; exact hd) rfl hn1 hk1 (by rw [hN]; omega) hbk (by rw [hM]; omega) rfl rfl (by rw [hN]; exact hcl) (by rw [hN, hM]; exact hsl)
  have hc4 : gcy g 4 = cA := Option.some.inj ((show s.vm.findClass ("[" ++ (FieldType.array .int).toString) = some (gcy g 4) from (hK.2 4 _ rfl).2).symm.trans fA)
  have hc0 : gcy g 0 = comp := Option.some.inj ((show s.vm.findClass (FieldType.array .int).toString = some (gcy g 0) from (hK.2 0 _ rfl).2).symm.trans fC)
  rw [← hc4, ← hc0] at X' step
  rw [hN, hM] at X' step
  generalize hF : Jvm.Free.Multi.fill (T.setVm vm₁) (gcy g 4) (gcy g 0) N K' (defaultValue .int) N = F at X' step
  have hTh : (T.setVm vm₁).heap = H := hT
  obtain ⟨f1, f2, -, -⟩ := Jvm.Free.Multi.fill_facts (T.setVm vm₁) (gcy g 4) (gcy g 0) N K' (defaultValue .int) N
  rw [hF, hTh] at f1 f2
  have hold : ∀ x : Nat, x < H.size → F.heap[x]? = H[x]? := fun x hx => by
    have := Jvm.Free.Multi.fill_old (T.setVm vm₁) (gcy g 4) (gcy g 0) N K' (defaultValue .int) (a := x) (by rw [hTh]; exact hx) N
    rw [hF, hTh] at this
    exact this
  have hrow : ∀ j : Nat, j < N → F.heap[H.size + 1 + j]? = some (vp_cell (gcy g 0) (K', .inl fun _ => 0)) := fun j hj => by
    have := Jvm.Free.Multi.fill_inner (T.setVm vm₁) (gcy g 4) (gcy g 0) N K' (defaultValue .int) N j hj
    rw [hF, hTh] at this
    rw [this, vp_cell_i]
    exact congrArg some (arrV_new (gcy g 0) K' (.int 0))
  have hout : Jvm.Free.Multi.outerC (gcy g 4) N H.size N = vp_cell (gcy g 4) (N, .inr (.inr (.inr (.inr (fun i => if i < N then some (H.size + 1 + i) else none))))) := by
    rw [vp_cell_q]
    exact vr_outer (gcy g 4) N H.size N
  rw [hout] at f2
  have hB := bH B hS
  have hrep : rep g (h.1 + (1 + N), h.2.1 + (N + N * K'), fun a => if a = h.1 then some (.inl (4, N, .inr (.inr (.inr (.inr (fun i => if i < N then some (h.1 + 1 + i) else none)))))) else if h.1 < a ∧ a < h.1 + 1 + N then some (.inl (0, K', .inl fun _ => 0)) else h.2.2 a) F.heap := by
    refine ⟨by rw [f1, hr.1]; show h.1 + 1 + N = h.1 + (1 + N); omega, fun a e9 ha => ?_⟩
    dsimp only at ha
    by_cases q1 : a = h.1
    · rw [if_pos q1] at ha
      cases ha
      subst q1
      rw [hr.1] at f2
      exact ⟨by rw [← hr.1]; exact hB, f2⟩
    · rw [if_neg q1] at ha
      by_cases q2 : h.1 < a ∧ a < h.1 + 1 + N
      · rw [if_pos q2] at ha
        cases ha
        have hj := hrow (a - (h.1 + 1)) (by omega)
        rw [hr.1, show h.1 + 1 + (a - (h.1 + 1)) = a by omega] at hj
        have := hr.1
        exact ⟨by omega, hj⟩
      · rw [if_neg q2] at ha
        exact ⟨(hr.2 a e9 ha).1, (hr.2 a e9 ha).2.kept (hold a (hr.lt ha))⟩
  have hcz : cells + (1 + N) = cells + 1 + N := by omega
  have hsz : slots + (N + N * K') = slots + N + N * K' := by omega
  have w2 := w F.heap locs hrep (hS.grow (by rw [f1]; omega) hold)
  obtain ⟨t, a1, b1⟩ := w2 F rfl (by rw [hcz, hsz]; exact X')
  refine ⟨t, step t ?_, b1⟩
  have e9 : T.heap.size = h.1 := by rw [hT]; exact hr.1
  rw [e9]
  exact a1
theorem I_ldcM {K : Mo α} (pc' : Nat) (hd : decode (mC M) pc = .ok (.ldc index, 2)) (hp : pc + 2 = pc') (hl : Cond.classLink (mY M).cls index "[Ljava/lang/Object;" ∈ TT) (kk : I l g M cv pc' lv (.ref (gmi g) :: st) K) : I l g M cv pc lv st K := by
  subst hp
  exact I_of (fun p e s m args below meth c R H locs cells slots Q ls B hlv hS f1 f2 w => va_ldcM B.1 B.2.1 B.2.2.2.1 (B.2.2.2.2.1 _ hl) B.2.2.2.2.2.2.2.2.2.1.2.2.2.2.2.1 hd (w ls hlv)) kk
abbrev gcN : MethodName := ⟨"java/lang/Object", "getClass", "()Ljava/lang/Class;"⟩
theorem gcw1 : Cond.declares gcN ∈ XT := by decide +kernel
theorem gcw2 : Cond.selects "[Ljava/lang/Object;" gcN gcN ∈ TT := by decide +kernel
theorem gcw3 : Cond.instanceMethod gcN ∈ TT := by decide +kernel
theorem gcw4 : Cond.native gcN ∈ TT := by decide +kernel
theorem str_O : ("[" ++ (FieldType.object "java/lang/Object").toString) = "[Ljava/lang/Object;" := by decide
theorem vp_cell_none (cA : ClassId) (x : vp_A) : (vp_cell cA x).vm = .none ∧ (vp_cell cA x).cls = cA := by
  obtain ⟨n, f | f | f | f | f⟩ := x <;> exact ⟨rfl, rfl⟩
theorem I_getC {a : Nat} {f : Unit → Mo α} (pc' : Nat) (hd : decode (mC M) pc = .ok (.invokevirtual index, 3)) (hp : pc + 3 = pc') (hl : Cond.methodLink (mY M).cls index gcN ∈ TT) (hf : 1 ≤ mF M) (hw : (rest.map fun v => v.category).sum + 14 ≤ mW M) (kk : I l g M cv pc' lv (.ref (gmi g) :: rest) (f ())) : I l g M cv pc lv (.ref a :: rest) (bnd (isA a) f) := by
  subst hp
  refine I_rd (sv := fun _ => .ref (gmi g) :: rest) (fun h z hz => ?_) (fun _ => kk)
  unfold isA at hz
  split at hz
  · rename_i k x ho
    split at hz
    · rename_i hk
      subst hk
      cases hz
      refine ⟨(), rfl, fun p e s m args below meth c R H locs cells slots Q ls B hr hS f1 f2 hlv w => ?_⟩
      have hts := B.2.2.2.2.1
      have hkn := B.2.2.2.2.2.2.2.2.2.1
      have hc : H[a]? = some (vp_cell (gcy g 3) x) := hr.P ho 0 _ rfl
      obtain ⟨kA, comp, r1, r2, r3, r4⟩ := ((bB B).2 3 _ rfl).2
      rw [str_O] at r4
      exact va_getC B.1 B.2.1 (by rw [B.2.2.1]; exact hlv.1.symm) B.2.2.2.1 (hts _ hl) (va_Nw.use rfl (hkn.2.1 _ gcw1)) (hts _ gcw2) (hts _ gcw3) (hts _ gcw4) hkn.2.2.2.2.2.1 ⟨_, hc, by rw [(vp_cell_none _ _).1]; rfl, by rw [(vp_cell_none _ _).2]; exact r4⟩ (Nat.le_trans hf f1) (Nat.le_trans hw f2) hd w
    · cases hz
  · cases hz
def okE (h : AH) (f : Nat → Option Nat) (s n : Nat) : Bool := (List.range n).all fun i => match f (s + i) with
  | none => true
  | some y => match h.2.2 y with
    | some (.inr o) => o.1 == 1 || o.1 == 4
    | _ => false
def acpy (a0 : Nat) (sp : Int32) (a1 : Nat) (dp n : Int32) : Mo Unit := fun h => match h.2.2 a0, h.2.2 a1 with
  | some (.inl (k0, n0, .inr (.inr (.inr (.inr f))))), some (.inl (k1, n1, .inr (.inr (.inr (.inr q))))) =>
    if k0 = 3 ∧ k1 = 3 ∧ ¬ sp < 0 ∧ ¬ dp < 0 ∧ ¬ n < 0 ∧ sp.toNatClampNeg + n.toNatClampNeg ≤ n0 ∧ dp.toNatClampNeg + n.toNatClampNeg ≤ n1 ∧ okE h f sp.toNatClampNeg n.toNatClampNeg = true then
      some (.inl (), hset h a1 (.inl (3, n1, .inr (.inr (.inr (.inr (va_cpy f q sp.toNatClampNeg dp.toNatClampNeg n.toNatClampNeg)))))))
    else none
  | _, _ => none
theorem acw1 : Cond.native arraycopyName ∈ TT := by decide +kernel
theorem acw2 : Cond.static arraycopyName ∈ TT := by decide +kernel
theorem acw3 : Cond.initialized "java/lang/System" ∈ TT := by decide +kernel
theorem I_copy {a0 a : Nat} {sp dp n : Int32} {f : Unit → Mo α} (pc' : Nat) (hd : decode (mC M) pc = .ok (.invokestatic index, 3)) (hp : pc + 3 = pc') (hl : Cond.methodLink (mY M).cls index arraycopyName ∈ TT) (hf : 1 ≤ mF M) (hw : (rest.map fun v => v.category).sum + (nativeFrameWords "java/lang/System" "arraycopy" 5 + 11) ≤ mW M) (kk : I l g M cv pc' lv rest (f ())) : I l g M cv pc lv (.int n :: .int dp :: .ref a :: .int sp :: .ref a0 :: rest) (bnd (acpy a0 sp a dp n) f) := by
  subst hp
  refine I_wr (sv := fun _ => rest) (fun h z hz => ?_) (fun _ => kk)
  unfold acpy at hz
  split at hz
  · rename_i k0 n0 fx k1 n1 qx ha0 ha1
    split at hz
    · rename_i hc
      obtain ⟨rfl, rfl, h1, h2, h3, h4, h5, hel⟩ := hc
      cases hz
      refine ⟨(), _, rfl, hset_le.1, hset_le.2, ?_⟩
      intro p e s m args below meth c R H locs cells slots Q ls B hr hS f1 f2 hlv _ _ w T hT X
      have hK := bB B
      have hts := B.2.2.2.2.1
      have hkn := B.2.2.2.2.2.2.2.2.2.1
      have nn : ∀ z : Int32, ¬ z < 0 → z.toInt = (z.toNatClampNeg : Int) := by
        intro z hz
        have hz0 : (0 : Int) ≤ z.toInt := by
          have := Int32.not_lt.mp hz
          simpa using Int32.le_iff_toInt_le.mp this
        show z.toInt = ((z.toInt.toNat : Nat) : Int)
        omega
      have hc0 : H[a0]? = some (vp_cell (gcy g 3) (n0, .inr (.inr (.inr (.inr fx))))) := hr.P ha0 0 _ rfl
      have hc1 : H[a]? = some (vp_cell (gcy g 3) (n1, .inr (.inr (.inr (.inr qx))))) := hr.P ha1 0 _ rfl
      obtain ⟨-, k0, hk0, cm0, hkk0⟩ := (hK.2 3 _ rfl).1 n0 (fun j => va_rf (fx j))
      obtain ⟨vm', X', step⟩ := X.arraycopy B.1 B.2.2.2.1 (hts _ hl) (hts _ acw1) (hts _ acw2) (hts _ acw3) (src := a0) (dst := a) (cs := vp_cell (gcy g 3) (n0, .inr (.inr (.inr (.inr fx))))) (cd := vp_cell (gcy g 3) (n1, .inr (.inr (.inr (.inr qx))))) (srcPos := sp) (destPos := dp) (n := n) (by rw [hT]; exact hc0) (by rw [hT]; exact hc1)
        (fun _ h => by cases h) (fun _ h => by cases h) (fun h => by cases h) (fun h => by cases h) hk0 hk0 hkk0 hkk0 rfl h1 h2 h3
        (by rw [nn sp h1, nn n h3]; show ¬ _ > ((arrV (gcy g 3) n0 (fun j => va_rf (fx j))).slots.size : Int); rw [arrV_size]; omega)
        (by rw [nn dp h2, nn n h3]; show ¬ _ > ((arrV (gcy g 3) n1 (fun j => va_rf (qx j))).slots.size : Int); rw [arrV_size]; omega)
        (fun vm₁ hal i hi => by
          have e : (vp_cell (gcy g 3) (n0, .inr (.inr (.inr (.inr fx))))).slots.getD (sp.toNatClampNeg + i) .null = va_rf (fx (sp.toNatClampNeg + i)) := by
            show (arrV (gcy g 3) n0 (fun j => va_rf (fx j))).slots.getD _ _ = _
            rw [Array.getD_eq_getD_getElem?, arrV_read _ _ (by omega)]
            rfl
          rw [e]
          have hi2 := List.all_eq_true.mp hel i (List.mem_range.mpr hi)
          cases hy : fx (sp.toNatClampNeg + i) with
          | none => exact ⟨rfl, trivial⟩
          | some y =>
            rw [hy] at hi2
            dsimp only at hi2
            have hany : va_Any "java/lang/Object" s H y := by
              split at hi2
              · rename_i o ho
                obtain ⟨oc, ofs⟩ := o
                simp only [Bool.or_eq_true, beq_iff_eq] at hi2
                rcases hi2 with q | q
                · subst q
                  refine va_rAny (q0 := 0) hK (hr.P ho) rfl rfl (fun comp c0 e1 e2 => ?_)
                  obtain ⟨c3, c4, f3, f4, f5⟩ := Cond.castable_spec (va_Nw.use (A := args) rfl (hkn.2.1 _ xc_box))
                  cases Option.some.inj (e1.symm.trans f4)
                  cases Option.some.inj (e2.symm.trans f3)
                  exact f5
                · subst q
                  refine va_rAny (q0 := 0) hK (hr.P ho) rfl rfl (fun comp c0 e1 e2 => ?_)
                  obtain ⟨c3, c4, f3, f4, f5⟩ := Cond.castable_spec (va_Nw.use (A := args) rfl (hkn.2.1 _ xc_train))
                  cases Option.some.inj (e1.symm.trans f4)
                  cases Option.some.inj (e2.symm.trans f3)
                  exact f5
              · cases hi2
            obtain ⟨cellV, g1, g2, ⟨kC, hkC⟩, hasg⟩ := hany
            obtain ⟨kA, comp, r1, r2, r3, -⟩ := (hK.2 3 _ rfl).2
            cases hk0.symm.trans r1
            cases hkk0.symm.trans r2
            obtain ⟨kE, hkE, -⟩ := Vm.findClass_spec r3
            obtain ⟨kC', hkC', -⟩ := hal.2.2 _ _ hkC
            obtain ⟨kE', hkE', -⟩ := hal.2.2 _ _ hkE
            refine ⟨rfl, cellV, (show T.heap[y]? = some cellV by rw [hT]; exact g1), (fun q h => by rw [h] at g2; cases g2), ⟨kC', hkC'⟩, ?_, ?_⟩
            · exact ⟨kE', hkE'⟩
            · show vm₁.assignable _ _ = true
              rw [hal.assignable]
              exact hasg _ r3)
        (g := F0 m pc ls (.int n :: .int dp :: .ref a :: .int sp :: .ref a0 :: rest)) rfl (by rw [B.2.2.1]; exact hlv.1) (rest := rest) rfl (by rw [B.2.1]; exact hd) (Nat.le_trans hf f1) (by show 2 * 0 + _ + _ ≤ _; omega)
      have e1 : copied (vp_cell (gcy g 3) (n0, .inr (.inr (.inr (.inr fx))))) (vp_cell (gcy g 3) (n1, .inr (.inr (.inr (.inr qx))))) sp dp n = vp_cell (gcy g 3) (n1, .inr (.inr (.inr (.inr (va_cpy fx qx sp.toNatClampNeg dp.toNatClampNeg n.toNatClampNeg))))) := by
        rw [vp_cell_q, vp_cell_q, vp_cell_q]
        exact va_copied (fun z => va_rf z) (gcy g 3) (gcy g 3) fx qx h4
      rw [e1] at X' step
      have hlt : a < H.size := (Array.getElem?_eq_some_iff.mp hc1).1
      have hheap : ((T.setVm vm').setCell a (vp_cell (gcy g 3) (n1, .inr (.inr (.inr (.inr (va_cpy fx qx sp.toNatClampNeg dp.toNatClampNeg n.toNatClampNeg))))))).heap = H.setIfInBounds a (vp_cell (gcy g 3) (n1, .inr (.inr (.inr (.inr (va_cpy fx qx sp.toNatClampNeg dp.toNatClampNeg n.toNatClampNeg)))))) := by rw [← hT]; rfl
      have oq : ∀ q : Nat, q ≠ a → (H.setIfInBounds a (vp_cell (gcy g 3) (n1, .inr (.inr (.inr (.inr (va_cpy fx qx sp.toNatClampNeg dp.toNatClampNeg n.toNatClampNeg)))))))[q]? = H[q]? := fun q hq => by simp [Array.getElem?_setIfInBounds, Ne.symm hq]
      have hgA := (hr.2 a _ ha1).1
      have hrep : rep g (hset h a (.inl (3, n1, .inr (.inr (.inr (.inr (va_cpy fx qx sp.toNatClampNeg dp.toNatClampNeg n.toNatClampNeg))))))) (H.setIfInBounds a (vp_cell (gcy g 3) (n1, .inr (.inr (.inr (.inr (va_cpy fx qx sp.toNatClampNeg dp.toNatClampNeg n.toNatClampNeg))))))) := hr.set ha1 (show (H.setIfInBounds a _)[a]? = some _ by simp [Array.getElem?_setIfInBounds, hlt]) (by simp) oq
      have ec : cells + ((hset h a (.inl (3, n1, .inr (.inr (.inr (.inr (va_cpy fx qx sp.toNatClampNeg dp.toNatClampNeg n.toNatClampNeg))))))).1 - h.1) = cells := by show cells + (h.1 - h.1) = cells; omega
      have es : slots + ((hset h a (.inl (3, n1, .inr (.inr (.inr (.inr (va_cpy fx qx sp.toNatClampNeg dp.toNatClampNeg n.toNatClampNeg))))))).2.1 - h.2.1) = slots := by show slots + (h.2.1 - h.2.1) = slots; omega
      rw [ec, es] at w
      obtain ⟨t, a1, b1⟩ := w _ _ hrep ⟨by simp; exact hS.1, fun q g1 g2 => by
        rw [oq q (fun e => g2 (by rw [e]; exact hgA))]
        exact hS.2.1 q g1 g2, fun q hq => by
        rcases List.mem_append.mp hq with h | h
        · exact hS.2.2 q h
        · obtain ⟨z, -, hz⟩ := List.mem_map.mp h
          rw [← hz]
          exact hgA⟩ _ hheap X'
      exact ⟨t, step t a1, b1⟩
    · cases hz
  · cases hz
end JDK
