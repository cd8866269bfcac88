/-! rows of I for arrays, new cells, casts, ends -/
theorem bB {l : Launch} {g : GX} {M : MS} {p : Program} {s : State} {m : MethodId} {args : Array Value} {meth : Method} {c : Code} (B : bdy l g M p s m args meth c) : va_K (gD g) vwCl (gty g) s := B.2.2.2.2.2.2.2.2.2.1.1
theorem bS {l : Launch} {g : GX} {M : MS} {p : Program} {s : State} {m : MethodId} {args : Array Value} {meth : Method} {c : Code} (B : bdy l g M p s m args meth c) : gB g ≤ s.heap.size := B.2.2.2.2.2.2.2.2.2.2.2.1
theorem bO {l : Launch} {g : GX} {M : MS} {p : Program} {s : State} {m : MethodId} {args : Array Value} {meth : Method} {c : Code} (B : bdy l g M p s m args meth c) : old g s s.heap := B.2.2.2.2.2.2.2.2.2.2.1
theorem bH {l : Launch} {g : GX} {M : MS} {p : Program} {s : State} {m : MethodId} {args : Array Value} {meth : Method} {c : Code} (B : bdy l g M p s m args meth c) {H : Heap} {locs : List Loc} (hS : va_S (gA g) s.heap H locs) : gB g ≤ H.size := Nat.le_trans (bS B) hS.1
theorem va_S.grow {A : Nat → Prop} {H0 H H1 : Heap} {locs : List Loc} (h : va_S A H0 H locs) (z : H.size ≤ H1.size) (oq : ∀ q : Nat, q < H.size → H1[q]? = H[q]?) : va_S A H0 H1 locs := ⟨Nat.le_trans h.1 z, fun q h1 h2 => (oq q (Nat.lt_of_lt_of_le h1 h.1)).trans (h.2.1 q h1 h2), h.2.2⟩
section ARR
variable {α β : Type} {l : Launch} {g : GX} {M : MS} {cv : α → Option Value} {pc : Nat} {lv lv' : List (Nat × Value)} {st st' : List Value} {K K1 K2 : Mo α} {a : Nat} {i : Int32}
theorem ldK_some {k a : Nat} {i : Int32} {h : AH} {z : (Int32 ⊕ String) × AH} (e : ldK k a i h = some z) : ∃ (n : Nat) (f : Nat → Int32), h.2.2 a = some (.inl (k, n, .inl f)) ∧ vp_in i n ∧ z = (.inl (f i.toNatClampNeg), h) := by
  unfold ldK at e
  split at e
  · rename_i k' n f ho
    split at e
    · rename_i hc
      obtain ⟨rfl, h2⟩ := hc
      cases e
      exact ⟨n, f, ho, oobB_in h2, rfl⟩
    · cases e
  · cases e
theorem stK_some {k a : Nat} {i v : Int32} {h : AH} {z : (Unit ⊕ String) × AH} (e : stK k a i v h = some z) : ∃ (n : Nat) (f : Nat → Int32), h.2.2 a = some (.inl (k, n, .inl f)) ∧ vp_in i n ∧ z = (.inl (), hset h a (.inl (k, n, .inl (upd f i.toNatClampNeg v)))) := by
  unfold stK at e
  split at e
  · rename_i k' n f ho
    split at e
    · rename_i hc
      obtain ⟨rfl, h2⟩ := hc
      cases e
      exact ⟨n, f, ho, oobB_in h2, rfl⟩
    · cases e
  · cases e
theorem I_iald {f : Int32 → Mo α} (pc' : Nat) (hd : decode (mC M) pc = .ok (.iaload, 1)) (hp : pc + 1 = pc') (kk : ∀ v, I l g M cv pc' lv (.int v :: st) (f v)) : I l g M cv pc lv (.int i :: .ref a :: st) (bnd (ldK 0 a i) f) := by
  subst hp
  refine I_rd (sv := fun v => .int v :: st) (fun h z hz => ?_) kk
  obtain ⟨n, fx, h1, h2, rfl⟩ := ldK_some hz
  exact ⟨_, rfl, fun p e s m args below meth c R H locs cells slots Q ls B hr hS _ _ _ w => va_iald B.1 B.2.1 (bB B) (hr.P h1) 0 0 rfl rfl h2 hd w⟩
theorem I_zald {f : Int32 → Mo α} (pc' : Nat) (hd : decode (mC M) pc = .ok (.baload, 1)) (hp : pc + 1 = pc') (kk : ∀ v, I l g M cv pc' lv (.int v :: st) (f v)) : I l g M cv pc lv (.int i :: .ref a :: st) (bnd (ldK 2 a i) f) := by
  subst hp
  refine I_rd (sv := fun v => .int v :: st) (fun h z hz => ?_) kk
  obtain ⟨n, fx, h1, h2, rfl⟩ := ldK_some hz
  exact ⟨_, rfl, fun p e s m args below meth c R H locs cells slots Q ls B hr hS _ _ _ w => va_zald B.1 B.2.1 (bB B) (hr.P h1) 0 2 rfl rfl h2 hd w⟩
theorem I_lald {f : Int64 → Mo α} (pc' : Nat) (hd : decode (mC M) pc = .ok (.laload, 1)) (hp : pc + 1 = pc') (kk : ∀ v, I l g M cv pc' lv (.long v :: st) (f v)) : I l g M cv pc lv (.int i :: .ref a :: st) (bnd (ldL a i) f) := by
  subst hp
  refine I_rd (sv := fun v => .long v :: st) (fun h z hz => ?_) kk
  unfold ldL at hz
  split at hz
  · rename_i k' n fx ho
    split at hz
    · rename_i hc
      obtain ⟨rfl, h2⟩ := hc
      cases hz
      exact ⟨_, rfl, fun p e s m args below meth c R H locs cells slots Q ls B hr hS _ _ _ w => va_lald B.1 B.2.1 (bB B) (hr.P ho) 0 1 rfl rfl (oobB_in h2) hd w⟩
    · cases hz
  · cases hz
theorem ldR_some {k a : Nat} {i : Int32} {h : AH} {z : (Nat ⊕ String) × AH} (e : ldR k a i h = some z) : ∃ (n : Nat) (f : Nat → Option Nat) (v : Nat), h.2.2 a = some (.inl (k, n, .inr (.inr (.inr (.inr f))))) ∧ vp_in i n ∧ f i.toNatClampNeg = some v ∧ z = (.inl v, h) := by
  unfold ldR at e
  split at e
  · rename_i k' n f ho
    split at e
    · rename_i hc
      obtain ⟨rfl, h2⟩ := hc
      split at e
      · rename_i v hv
        cases e
        exact ⟨n, f, v, ho, oobB_in h2, hv, rfl⟩
      · cases e
    · cases e
  · cases e
theorem I_aald3 {f : Nat → Mo α} (pc' : Nat) (hd : decode (mC M) pc = .ok (.aaload, 1)) (hp : pc + 1 = pc') (kk : ∀ v, I l g M cv pc' lv (.ref v :: st) (f v)) : I l g M cv pc lv (.int i :: .ref a :: st) (bnd (ldR 3 a i) f) := by
  subst hp
  refine I_rd (sv := fun v => .ref v :: st) (fun h z hz => ?_) kk
  obtain ⟨n, fx, v, h1, h2, h3, rfl⟩ := ldR_some hz
  refine ⟨_, rfl, fun p e s m args below meth c R H locs cells slots Q ls B hr hS _ _ _ w => va_aldq B.1 B.2.1 (bB B) (hr.P h1) 0 3 rfl rfl h2 hd ?_⟩
  rw [h3]
  exact w
theorem I_aald4 {f : Nat → Mo α} (pc' : Nat) (hd : decode (mC M) pc = .ok (.aaload, 1)) (hp : pc + 1 = pc') (kk : ∀ v, I l g M cv pc' lv (.ref v :: st) (f v)) : I l g M cv pc lv (.int i :: .ref a :: st) (bnd (ldR 4 a i) f) := by
  subst hp
  refine I_rd (sv := fun v => .ref v :: st) (fun h z hz => ?_) kk
  obtain ⟨n, fx, v, h1, h2, h3, rfl⟩ := ldR_some hz
  refine ⟨_, rfl, fun p e s m args below meth c R H locs cells slots Q ls B hr hS _ _ _ w => ?_⟩
  have hlt : i.toNatClampNeg < n := Nat.not_le.mp fun q => h2 (Or.inr q)
  have hP := hr.P h1
  have hK := bB B
  refine W.aald (v := va_rf (fx i.toNatClampNeg)) (ty := .array .int) B.1 B.2.1 (hP 0 _ rfl) ((hK.2 4 _ rfl).1 n (fun j => va_rf (fx j))) rfl (fun q => by cases q) (by show ¬ (i < 0 ∨ (arrV _ _ _).slots.size ≤ _); rw [arrV_size]; exact h2) (by show (arrV _ _ _).slots[_]? = _; rw [arrV_read _ _ hlt]) rfl rfl hd ?_
  rw [h3]
  exact w
theorem I_sld {f : Int32 → Mo α} (pc' : Nat) (hd : decode (mC M) pc = .ok (.iaload, 1)) (hp : pc + 1 = pc') (kk : ∀ v, I l g M cv pc' lv (.int v :: st) (f v)) : I l g M cv pc lv (.int i :: .ref (gb g) :: st) (bnd (ldS (gL g) (gxs g) i) f) := by
  subst hp
  refine I_rd (sv := fun v => .int v :: st) (fun h z hz => ?_) kk
  unfold ldS at hz
  split at hz
  · rename_i h2
    cases hz
    exact ⟨_, rfl, fun p e s m args below meth c R H locs cells slots Q ls B hr hS _ _ _ w => va_sld B.1 B.2.1 (bO B).1 (Nat.lt_of_lt_of_le (bO B).2.1 (bS B)) (Nat.not_le.mpr (bO B).2.1) hS (oobB_in h2) hd w⟩
  · cases hz
theorem I_slen (pc' : Nat) (hd : decode (mC M) pc = .ok (.arraylength, 1)) (hp : pc + 1 = pc') (kk : I l g M cv pc' lv (.int (Int32.ofNat (gL g)) :: st) K) : I l g M cv pc lv (.ref (gb g) :: st) K := by
  subst hp
  exact I_of (fun p e s m args below meth c R H locs cells slots Q ls B hl hS _ _ w => va_slen B.1 B.2.1 (bO B).1 (Nat.lt_of_lt_of_le (bO B).2.1 (bS B)) (Nat.not_le.mpr (bO B).2.1) hS hd (w ls hl)) kk
theorem I_alen {f : Int32 → Mo α} (pc' : Nat) (hd : decode (mC M) pc = .ok (.arraylength, 1)) (hp : pc + 1 = pc') (kk : ∀ v, I l g M cv pc' lv (.int v :: st) (f v)) : I l g M cv pc lv (.ref a :: st) (bnd (alen a) f) := by
  subst hp
  refine I_rd (sv := fun v => .int v :: st) (fun h z hz => ?_) kk
  unfold alen at hz
  split at hz
  · rename_i k x ho
    split at hz
    · rename_i hk
      cases hz
      have ht : ∃ ty, (gty g)[k]? = some (gcy g k, ty) := by
        match k, hk with
        | 0, _ => exact ⟨_, rfl⟩
        | 1, _ => exact ⟨_, rfl⟩
        | 2, _ => exact ⟨_, rfl⟩
        | 3, _ => exact ⟨_, rfl⟩
        | 4, _ => exact ⟨_, rfl⟩
      obtain ⟨ty, ht⟩ := ht
      exact ⟨_, rfl, fun p e s m args below meth c R H locs cells slots Q ls B hr hS _ _ _ w => va_alen B.1 B.2.1 (bB B) (hr.P ho) 0 k rfl ht rfl hd w⟩
    · cases hz
  · cases hz
theorem I_alenT {f : Int32 → Mo α} (pc' : Nat) (hd : decode (mC M) pc = .ok (.arraylength, 1)) (hp : pc + 1 = pc') (kk : ∀ v, I l g M cv pc' lv (.int v :: st) (f v)) : I l g M cv pc lv (.ref a :: st) (bnd (alenT (gt0 g) a) f) := by
  by_cases ha : a = gt0 g
  · subst ha
    subst hp
    refine I_rd (sv := fun v => .int v :: st) (fun h z hz => ?_) kk
    unfold alenT at hz
    rw [if_pos rfl] at hz
    cases hz
    exact ⟨_, rfl, fun p e s m args below meth c R H locs cells slots Q ls B hr hS _ _ _ w => va_tlen B.1 B.2.1 (bO B).2.2.1 hS rfl hd w⟩
  · have e : alenT (gt0 g) a = alen a := by funext h; simp [alenT, ha]
    rw [e]
    exact I_alen pc' hd hp kk
theorem I_iast {v : Int32} {f : Unit → Mo α} (pc' : Nat) (hd : decode (mC M) pc = .ok (.iastore, 1)) (hp : pc + 1 = pc') (kk : I l g M cv pc' lv st (f ())) : I l g M cv pc lv (.int v :: .int i :: .ref a :: st) (bnd (stK 0 a i v) f) := by
  subst hp
  refine I_wr (sv := fun _ => st) (fun h z hz => ?_) (fun _ => kk)
  obtain ⟨n, fx, h1, h2, rfl⟩ := stK_some hz
  refine ⟨(), _, rfl, hset_le.1, hset_le.2, ?_⟩
  intro p e s m args below meth c R H locs cells slots Q ls B hr hS _ _ _ _ _ w
  have hK := bB B
  refine W.iast B.1 B.2.1 (hr.P h1 0 _ rfl) ((hK.2 0 _ rfl).1 n (fun j => .int (fx j))) (fun q => by cases q) (by show ¬ (i < 0 ∨ (arrV _ _ _).slots.size ≤ _); rw [arrV_size]; exact h2) rfl rfl hd fun H1 e1 z oq => ?_
  have hrep : rep g (hset h a (.inl (0, n, .inl (upd fx i.toNatClampNeg v)))) H1 := by
    refine hr.set h1 ?_ z oq
    show H1[a]? = some (vp_cell _ _)
    rw [e1, vp_cell_i]
    show some ((arrV _ _ _).setSlot _ _) = _
    rw [arrV_store]
    refine congrArg some ?_
    show arrV (gcy g 0) n _ = arrV (gcy g 0) n (fun j => Value.int (upd fx i.toNatClampNeg v j))
    congr 1
    funext q
    by_cases hq : q = i.toNatClampNeg
    · subst hq; simp [updV, upd]
    · simp [updV, upd, hq]
  have := w H1 _ hrep (hS.put (k := i.toNatClampNeg) z oq (hr.2 a _ h1).1)
  simpa [hset] using this
theorem I_zast {v : Int32} {f : Unit → Mo α} (pc' : Nat) (hd : decode (mC M) pc = .ok (.bastore, 1)) (hp : pc + 1 = pc') (kk : I l g M cv pc' lv st (f ())) : I l g M cv pc lv (.int v :: .int i :: .ref a :: st) (bnd (stZ a i v) f) := by
  subst hp
  refine I_wr (sv := fun _ => st) (fun h z hz => ?_) (fun _ => kk)
  unfold stZ at hz
  split at hz
  case isFalse => cases hz
  rename_i hv
  obtain ⟨n, fx, h1, h2, rfl⟩ := stK_some hz
  refine ⟨(), _, rfl, hset_le.1, hset_le.2, ?_⟩
  intro p e s m args below meth c R H locs cells slots Q ls B hr hS _ _ _ _ _ w
  have hK := bB B
  refine W.zast B.1 B.2.1 (hr.P h1 0 _ rfl) ((hK.2 2 _ rfl).1 n (fun j => .int (fx j))) (fun q => by cases q) (by show ¬ (i < 0 ∨ (arrV _ _ _).slots.size ≤ _); rw [arrV_size]; exact h2) rfl rfl hd fun H1 e1 z oq => ?_
  have hrep : rep g (hset h a (.inl (2, n, .inl (upd fx i.toNatClampNeg v)))) H1 := by
    refine hr.set h1 ?_ z oq
    show H1[a]? = some (vp_cell _ _)
    rw [e1, vp_cell_i, show narrow .boolean (.int v) = .int v by rcases hv with rfl | rfl <;> rfl]
    show some ((arrV _ _ _).setSlot _ _) = _
    rw [arrV_store]
    refine congrArg some ?_
    show arrV (gcy g 2) n _ = arrV (gcy g 2) n (fun j => Value.int (upd fx i.toNatClampNeg v j))
    congr 1
    funext q
    by_cases hq : q = i.toNatClampNeg
    · subst hq; simp [updV, upd]
    · simp [updV, upd, hq]
  have := w H1 _ hrep (hS.put (k := i.toNatClampNeg) z oq (hr.2 a _ h1).1)
  simpa [hset] using this
theorem I_last {v : Int64} {f : Unit → Mo α} (pc' : Nat) (hd : decode (mC M) pc = .ok (.lastore, 1)) (hp : pc + 1 = pc') (kk : I l g M cv pc' lv st (f ())) : I l g M cv pc lv (.long v :: .int i :: .ref a :: st) (bnd (stL a i v) f) := by
  subst hp
  refine I_wr (sv := fun _ => st) (fun h z hz => ?_) (fun _ => kk)
  unfold stL at hz
  split at hz
  · rename_i k' n fx h1
    split at hz
    · rename_i hc
      obtain ⟨rfl, h2⟩ := hc
      have h2 := oobB_in h2
      cases hz
      refine ⟨(), _, rfl, hset_le.1, hset_le.2, ?_⟩
      intro p e s m args below meth c R H locs cells slots Q ls B hr hS _ _ _ _ _ w
      have hK := bB B
      refine W.last B.1 B.2.1 (hr.P h1 0 _ rfl) ((hK.2 1 _ rfl).1 n (fun j => .long (fx j))) (fun q => by cases q) (by show ¬ (i < 0 ∨ (arrV _ _ _).slots.size ≤ _); rw [arrV_size]; exact h2) rfl rfl hd fun H1 e1 z oq => ?_
      have hrep : rep g (hset h a (.inl (1, n, .inr (.inl (vp_updL fx i.toNatClampNeg v))))) H1 := by
        refine hr.set h1 ?_ z oq
        show H1[a]? = some (vp_cell _ _)
        rw [e1, vp_cell_l]
        show some ((arrV _ _ _).setSlot _ _) = _
        rw [arrV_store]
        refine congrArg some ?_
        show arrV (gcy g 1) n _ = arrV (gcy g 1) n (fun j => Value.long (vp_updL fx i.toNatClampNeg v j))
        congr 1
        funext q
        by_cases hq : q = i.toNatClampNeg
        · subst hq; simp [updV, vp_updL]
        · simp [updV, vp_updL, hq]
      have := w H1 _ hrep (hS.put (k := i.toNatClampNeg) z oq (hr.2 a _ h1).1)
      simpa [hset] using this
    · cases hz
  · cases hz
/-- new: an object with its fields' defaults -/
theorem I_new {ci N index : Nat} {C : String} {T : u_T} {ty : Nat → FieldType} {fs : List Value} {f : Nat → Mo α} (pc' : Nat) (hd : decode (mC M) pc = .ok (.new index, 3)) (hp : pc + 3 = pc') (hc : clOK ci C T N ty) (hl : Cond.classLink (mY M).cls index C ∈ TT) (hi : Cond.instantiable C N ∈ TT) (hz : Cond.initialized C ∈ TT) (hfs : ∀ j, j < N → defaultValue (ty j) = vp_V fs j) (kk : ∀ v, I l g M cv pc' lv (.ref v :: st) (f v)) : I l g M cv pc lv st (bnd (newO ci N fs) f) := by
  subst hp
  refine I_wr (sv := fun v => .ref v :: st) (fun h z e => ?_) kk
  cases e
  refine ⟨h.1, _, rfl, Nat.le_succ _, Nat.le_add_right _ _, ?_⟩
  intro p e s m args below meth c R H locs cells slots Q ls B hr hS _ _ _ hcl hsl w
  have hK := bB B
  have hts := B.2.2.2.2.1
  obtain ⟨hcv, hin, hty, hnm⟩ := hc
  have hKn := hK.1 ci _ hcv
  have e1 : h.1 + 1 - h.1 = 1 := by omega
  have e2 : h.2.1 + N - h.2.1 = N := by omega
  dsimp only at hcl hsl w
  rw [e1] at hcl w
  rw [e2] at hsl w
  refine W.newcK B.1 B.2.1 B.2.2.2.1 (hts _ hl) (hts _ hi) (hts _ hz) rfl hd hcl hsl hKn.2.1 hr.1 fun H1 kC hkC q1 z1 o1 => ?_
  rw [← hr.1] at q1 z1 o1
  have := w H1 locs (hr.push (n := h.2.1 + N) (bH B hS) ⟨_, hcv, (u_born ty hts hin hKn hkC q1 hty).to hfs⟩ z1 o1) (hS.grow (by omega) o1)
  exact this
theorem I_newarr {at' : ArrayType} {k : Nat} {ty : FieldType} {ct : (Nat → Int32) ⊕ (Nat → Int64) ⊕ (Nat → UInt32) ⊕ (Nat → UInt64) ⊕ (Nat → Option Nat)} {n : Int32} {f : Nat → Mo α} (pc' : Nat) (hd : decode (mC M) pc = .ok (.newarray at', 2)) (hp : pc + 2 = pc') (hk : (gty g)[k]? = some (gcy g k, ty)) (hty : newarray.typeOf at' = ty) (hnm : ∀ (U : State) (cA : ClassId), va_RA U cA ty → U.vm.findClass ("[" ++ ty.toString) = some cA) (hby : componentBytes ty ≤ 8) (hct : ∀ (N : Nat) (cA : ClassId), vp_cell cA (N, ct) = arrV cA N (fun _ => defaultValue ty)) (hw : Cond.arrayClass ty ∈ TT) (kk : ∀ v, I l g M cv pc' lv (.ref v :: st) (f v)) : I l g M cv pc lv (.int n :: st) (bnd (newK k ct n) f) := by
  subst hp
  subst hty
  refine I_wr (sv := fun v => .ref v :: st) (fun h z e => ?_) kk
  unfold newK at e
  split at e
  · cases e
  rename_i hn
  cases e
  have hn1 : ¬ n < 0 := fun q => hn (Or.inl q)
  have hn2 : ¬ 1000000 < n.toNatClampNeg := fun q => hn (Or.inr q)
  refine ⟨h.1, _, rfl, Nat.le_succ _, Nat.le_add_right _ _, ?_⟩
  intro p e s m args below meth c R H locs cells slots Q ls B hr hS _ _ _ hcl hsl w
  have hK := bB B
  have hts := B.2.2.2.2.1
  have e1 : h.1 + 1 - h.1 = 1 := by omega
  have e2 : h.2.1 + n.toNatClampNeg - h.2.1 = n.toNatClampNeg := by omega
  dsimp only at hcl hsl w
  rw [e1] at hcl w
  rw [e2] at hsl w
  have hbb : n.toNatClampNeg * componentBytes (newarray.typeOf at') ≤ 536870912 := Nat.le_trans (Nat.mul_le_mul (Nat.not_lt.mp hn2) hby) (by decide)
  refine va_newaK B.1 B.2.1 (hts _ hw) rfl hd rfl hn1 rfl hbb hcl hsl hr.1 fun H1 cA q1 z1 o1 hAr hNm => ?_
  have hcA : cA = gcy g k := Option.some.inj (hNm.symm.trans (hnm s _ (hK.2 k _ hk).2))
  subst hcA
  rw [← hr.1] at q1 z1 o1
  exact w H1 locs (hr.push (n := h.2.1 + n.toNatClampNeg) (e := .inl (k, n.toNatClampNeg, ct)) (bH B hS) (by show H1[H.size]? = some (vp_cell _ _); rw [hct]; exact q1) z1 o1) (hS.grow (by omega) o1)
theorem I_newi {n : Int32} {f : Nat → Mo α} (pc' : Nat) (hd : decode (mC M) pc = .ok (.newarray .int, 2)) (hp : pc + 2 = pc') (hw : Cond.arrayClass .int ∈ TT) (kk : ∀ v, I l g M cv pc' lv (.ref v :: st) (f v)) : I l g M cv pc lv (.int n :: st) (bnd (newK 0 (.inl fun _ => 0) n) f) :=
  I_newarr (ty := .int) pc' hd hp rfl rfl (fun _ _ h => h) (by decide) (fun N cA => rfl) hw kk
theorem I_newl {n : Int32} {f : Nat → Mo α} (pc' : Nat) (hd : decode (mC M) pc = .ok (.newarray .long, 2)) (hp : pc + 2 = pc') (hw : Cond.arrayClass .long ∈ TT) (kk : ∀ v, I l g M cv pc' lv (.ref v :: st) (f v)) : I l g M cv pc lv (.int n :: st) (bnd (newK 1 (.inr (.inl fun _ => 0)) n) f) :=
  I_newarr (ty := .long) pc' hd hp rfl rfl (fun _ _ h => h) (by decide) (fun N cA => rfl) hw kk
theorem I_newz {n : Int32} {f : Nat → Mo α} (pc' : Nat) (hd : decode (mC M) pc = .ok (.newarray .boolean, 2)) (hp : pc + 2 = pc') (hw : Cond.arrayClass .boolean ∈ TT) (kk : ∀ v, I l g M cv pc' lv (.ref v :: st) (f v)) : I l g M cv pc lv (.int n :: st) (bnd (newK 2 (.inl fun _ => 0) n) f) :=
  I_newarr (ty := .boolean) pc' hd hp rfl rfl (fun _ _ h => h) (by decide) (fun N cA => rfl) hw kk
theorem I_newq {n : Int32} {index : Nat} {f : Nat → Mo α} (pc' : Nat) (hd : decode (mC M) pc = .ok (.anewarray index, 3)) (hp : pc + 3 = pc') (hl : Cond.classLink (mY M).cls index "java/lang/Object" ∈ TT) (kk : ∀ v, I l g M cv pc' lv (.ref v :: st) (f v)) : I l g M cv pc lv (.int n :: st) (bnd (newK 3 (.inr (.inr (.inr (.inr fun _ => none)))) n) f) := by
  subst hp
  refine I_wr (sv := fun v => .ref v :: st) (fun h z e => ?_) kk
  unfold newK at e
  split at e
  · cases e
  rename_i hn
  cases e
  have hn1 : ¬ n < 0 := fun q => hn (Or.inl q)
  have hn2 : ¬ 1000000 < n.toNatClampNeg := fun q => hn (Or.inr q)
  refine ⟨h.1, _, rfl, Nat.le_succ _, Nat.le_add_right _ _, ?_⟩
  intro p e s m args below meth c R H locs cells slots Q ls B hr hS _ _ _ hcl hsl w
  have hK := bB B
  have hts := B.2.2.2.2.1
  have e1 : h.1 + 1 - h.1 = 1 := by omega
  have e2 : h.2.1 + n.toNatClampNeg - h.2.1 = n.toNatClampNeg := by omega
  dsimp only at hcl hsl w
  rw [e1] at hcl w
  rw [e2] at hsl w
  refine W.anew B.1 B.2.1 B.2.2.2.1 (hts _ hl) (va_AO.use B.2.2.2.2.2.2.2.2.2.1.2.2.2.1) rfl hd rfl hn1 (by omega) hcl hsl fun cA kA comp f1 f2 f3 f4 => ?_
  obtain ⟨kA', comp', r1, r2, r3, r4⟩ := (hK.2 3 _ rfl).2
  have hcA : cA = gcy g 3 := Option.some.inj (f1.symm.trans r4)
  subst hcA
  generalize hH1 : H.push ({ cls := gcy g 3, slots := Array.replicate n.toNatClampNeg .null, vm := .none } : Cell) = H1
  have z1 : H1.size = H.size + 1 := by rw [← hH1, Array.size_push]
  have q1 : H1[H.size]? = some (arrV (gcy g 3) n.toNatClampNeg (fun _ => .null)) := by rw [← hH1, Array.getElem?_push_size, ← arrV_new]
  have o1 : ∀ q : Nat, q < H.size → H1[q]? = H[q]? := fun q hq => by rw [← hH1, Array.getElem?_push, if_neg (Nat.ne_of_lt hq)]
  have := w H1 locs (hr.push (n := h.2.1 + n.toNatClampNeg) (e := .inl (3, n.toNatClampNeg, .inr (.inr (.inr (.inr fun _ => none))))) (bH B hS) (by show H1[H.size]? = some (vp_cell _ _); rw [vp_cell_q]; exact q1) z1 o1) (hS.grow (by omega) o1)
  rw [← hr.1] at this
  exact this
theorem isC_some {a ci : Nat} {h : AH} {z : (Unit ⊕ String) × AH} (e : isC a ci h = some z) : ∃ fs : List Value, h.2.2 a = some (.inr (ci, fs)) ∧ z = (.inl (), h) := by
  unfold isC at e
  split at e
  · rename_i o ho
    split at e
    · rename_i hc
      subst hc
      cases e
      exact ⟨o.2, ho, rfl⟩
    · cases e
  · cases e
theorem I_cast {ci N index : Nat} {C : String} {T : u_T} {ty : Nat → FieldType} {f : Unit → Mo α} (pc' : Nat) (hd : decode (mC M) pc = .ok (.checkcast index, 3)) (hp : pc + 3 = pc') (hc : clOK ci C T N ty) (hl : Cond.classLink (mY M).cls index C ∈ TT) (kk : I l g M cv pc' lv (.ref a :: st) (f ())) : I l g M cv pc lv (.ref a :: st) (bnd (isC a ci) f) := by
  subst hp
  refine I_rd (sv := fun _ => .ref a :: st) (fun h z hz => ?_) (fun _ => kk)
  obtain ⟨fs, h1, rfl⟩ := isC_some hz
  exact ⟨(), rfl, fun p e s m args below meth c R H locs cells slots Q ls B hr hS _ _ _ w => va_castS B.1 B.2.1 B.2.2.2.1 (B.2.2.2.2.1 _ hl) ((bB B).1 ci _ hc.1).2 (va_recv (bB B) (hr.P h1) hc.1 (q0 := 0) rfl) hd w⟩
/-- ends -/
theorem I_end {z : α} (hw : ∀ (p : Program) (e : Env) (s : State) (m : MethodId) (args : Array Value) (below : List Frame) (meth : Method) (c : Code) (R : Room) (H : Heap) (locs : List Loc) (cells slots : Nat) (ls : Array Slot) (Qc : Array Value → State → Outcome → State → Prop), bdy l g M p s m args meth c → (∀ t : State, t.heap = H → s.WarmedH t.vm → Qc args s (.returned (cv z)) t) → (∀ q ∈ locs, gA g q.base) → W p l e R s m args below meth c H locs cells slots (MQ below Qc args s cells slots (gA g)) (F0 m pc ls st)) : I l g M cv pc lv st (rt z) := by
  intro h y hy
  cases hy
  refine ⟨Nat.le_refl _, Nat.le_refl _, ?_⟩
  intro p e s m args below meth c R H locs cells slots mc ms ls B f1 f2 f3 f4 f5 f6 hr hS hl
  have f3' : cells + (h.1 - h.1) ≤ mc := f3
  have f4' : slots + (h.2.1 - h.2.1) ≤ ms := f4
  refine W.widen (k := mc) (n := ms) (by omega) (by omega) ?_
  refine vx_ret ?_
  exact hw p e s m args below meth c R H locs mc ms ls _ B (fun t ht hW => ⟨cv z, rfl, rfl, by rw [ht]; exact hr, hS.F ht⟩) hS.2.2
end ARR
section ENDS
variable {l : Launch} {g : GX} {M : MS} {pc : Nat} {lv : List (Nat × Value)}
theorem I_iret {v : Int32} (hd : decode (mC M) pc = .ok (.ireturn, 1)) (hr : mR M = some .int) : I l g M cvI pc lv [.int v] (rt v) :=
  I_end (fun p e s m args below meth c R H locs cells slots ls Qc B hq hf => W.iret B.1 B.2.1 (B.2.2.2.2.2.1.trans hr) hq hf hd (hlocks := B.2.2.2.2.2.2.1))
theorem I_zret {v : Int32} (hd : decode (mC M) pc = .ok (.ireturn, 1)) (hr : mR M = some .boolean) : I l g M cvI pc lv [.int v] (rtZ v) := by
  by_cases hv : v = 0 ∨ v = 1
  · have e : rtZ v = rt v := by funext h; simp [rtZ, hv, rt]
    rw [e]
    exact I_end (fun p e s m args below meth c R H locs cells slots ls Qc B hq hf => W.zret B.1 B.2.1 (B.2.2.2.2.2.1.trans hr) (by rcases hv with rfl | rfl <;> rfl) hq hf hd (hlocks := B.2.2.2.2.2.2.1))
  · intro h y hy
    simp [rtZ, hv] at hy
theorem I_vret (hd : decode (mC M) pc = .ok (.return_, 1)) (hr : mR M = none) : I l g M cvU pc lv [] (rt ()) :=
  I_end (fun p e s m args below meth c R H locs cells slots ls Qc B hq hf => W.vret B.1 B.2.1 (B.2.2.2.2.2.1.trans hr) hq hf hd (hlocks := B.2.2.2.2.2.2.1))
theorem I_aret {v : Nat} {t : FieldType} (hd : decode (mC M) pc = .ok (.areturn, 1)) (hr : mR M = some t) (ht : (∃ n, t = .object n) ∨ ∃ u, t = .array u) : I l g M cvA pc lv [.ref v] (rt v) :=
  I_end (fun p e s m args below meth c R H locs cells slots ls Qc B hq hf => W.aret B.1 B.2.1 (B.2.2.2.2.2.1.trans hr) ht (Or.inr ⟨v, rfl⟩) hq hf hd (hlocks := B.2.2.2.2.2.2.1))
end ENDS
