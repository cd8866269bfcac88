/-! rows of I for fields, arrays, new cells -/
def clOK (ci : Nat) (C : String) (T : u_T) (N : Nat) (ty : Nat → FieldType) : Prop := vwCl[ci]? = some (C, T, N) ∧ (∀ w ∈ u_ws C T N, w ∈ TT) ∧ (∀ k, k < N → parseFieldDescriptor (T k).2.2.1 = some (ty k)) ∧ (∀ a, a < N → ∀ b, b < N → a ≠ b → (T a).2.1 ≠ (T b).2.1)
theorem fld_some {a ci k : Nat} {h : AH} {v : Value} (e : fld a ci k h = some v) : ∃ fs : List Value, h.2.2 a = some (.inr (ci, fs)) ∧ fs[k]? = some v := by
  unfold fld at e
  split at e
  · rename_i o ho
    split at e
    · rename_i hc
      subst hc
      exact ⟨o.2, ho, e⟩
    · cases e
  · cases e
theorem rep.P {g : GX} {h : AH} {H : Heap} (hr : rep g h H) {a : Nat} {e : AE} (ha : h.2.2 a = some e) : va_P (gD g) vwCl [(a, toE (gcy g) e)] H := by
  intro k q hk
  have hz : k < 1 := (List.getElem?_eq_some_iff.mp hk).1
  rw [show k = 0 by omega] at hk
  cases hk
  exact (hr.2 a e ha).2
theorem rep.set {g : GX} {h : AH} {H H1 : Heap} (hr : rep g h H) {a : Nat} {e0 e : AE} (ha : h.2.2 a = some e0) (he : va_at (gD g) vwCl (a, toE (gcy g) e) H1) (hz : H1.size = H.size) (oq : ∀ q : Nat, q ≠ a → H1[q]? = H[q]?) : rep g (hset h a e) H1 := by
  refine ⟨hz.trans hr.1, fun b e2 hb => ?_⟩
  by_cases hba : b = a
  · subst hba
    have : some e = some e2 := by
      have h2 : va_up h.2.2 b (some e) b = some e2 := hb
      rwa [va_up_self] at h2
    cases this
    exact ⟨(hr.2 b e0 ha).1, he⟩
  · have h2 : va_up h.2.2 a (some e) b = some e2 := hb
    rw [va_up_ne _ _ hba] at h2
    exact ⟨(hr.2 b e2 h2).1, (hr.2 b e2 h2).2.kept (oq b hba)⟩
theorem rep.lt {g : GX} {h : AH} {H : Heap} (hr : rep g h H) {a : Nat} {e : AE} (ha : h.2.2 a = some e) : a < H.size := (hr.2 a e ha).2.lt
theorem rep.push {g : GX} {h : AH} {H H1 : Heap} {n : Nat} (hr : rep g h H) {e : AE} (hB : gB g ≤ H.size) (he : va_at (gD g) vwCl (H.size, toE (gcy g) e) H1) (hz : H1.size = H.size + 1) (oq : ∀ q : Nat, q < H.size → H1[q]? = H[q]?) : rep g (h.1 + 1, n, va_up h.2.2 h.1 (some e)) H1 := by
  refine ⟨by rw [hz, hr.1], fun b e2 hb => ?_⟩
  by_cases hba : b = h.1
  · subst hba
    have : some e = some e2 := by
      have h2 : va_up h.2.2 h.1 (some e) h.1 = some e2 := hb
      rwa [va_up_self] at h2
    cases this
    rw [← hr.1]
    exact ⟨hB, he⟩
  · have h2 : va_up h.2.2 h.1 (some e) b = some e2 := hb
    rw [va_up_ne _ _ hba] at h2
    exact ⟨(hr.2 b e2 h2).1, (hr.2 b e2 h2).2.kept (oq b (hr.lt h2))⟩
section MEM
variable {α β : Type} {l : Launch} {g : GX} {M : MS} {cv : α → Option Value} {pc : Nat} {lv lv' : List (Nat × Value)} {st st' : List Value} {K K1 K2 : Mo α}
abbrev sameF (ref : String) (q : String × String × String × Bool) : Prop := ∀ (args : Array Value) (s : State), (∀ w ∈ TT, w.before args s = true) → ∀ x, s.fieldFound? q.1 q.2.1 q.2.2.1 = some x → s.fieldFound? ref q.2.1 q.2.2.1 = some x
theorem sameF_rfl {q : String × String × String × Bool} : sameF q.1 q := fun _ _ _ _ h => h
section GET
variable {a ci k index N : Nat} {ref C : String} {T : u_T} {ty : Nat → FieldType}
theorem I_getI {f : Int32 → Mo α} (pc' : Nat) (hd : decode (mC M) pc = .ok (.getfield index, 3)) (hp : pc + 3 = pc') (hc : clOK ci C T N ty) (hk : k < N) (hl : Cond.fieldLink (mY M).cls index ref (T k).2.1 (T k).2.2.1 ∈ TT) (hsm : sameF ref (T k)) (kk : ∀ v, I l g M cv pc' lv (.int v :: st) (f v)) : I l g M cv pc lv (.ref a :: st) (bnd (gI a ci k) f) := by
  subst hp
  refine I_rd (sv := fun v => .int v :: st) (fun h z hz => ?_) kk
  unfold gI at hz
  split at hz
  · rename_i v hv
    cases hz
    obtain ⟨fs, h1, h2⟩ := fld_some hv
    exact ⟨v, rfl, fun p e s m args below meth c R H locs cells slots Q ls B hr hS _ _ _ w => va_get B.1 B.2.1 B.2.2.2.2.1 hc.2.1 B.2.2.2.1 B.2.2.2.2.2.2.2.2.2.1.1 (hr.P h1) 0 rfl hc.1 k hk (B.2.2.2.2.1 _ hl) (hsm args s B.2.2.2.2.1) h2 hd w⟩
  · cases hz
theorem I_getA {f : Nat → Mo α} (pc' : Nat) (hd : decode (mC M) pc = .ok (.getfield index, 3)) (hp : pc + 3 = pc') (hc : clOK ci C T N ty) (hk : k < N) (hl : Cond.fieldLink (mY M).cls index ref (T k).2.1 (T k).2.2.1 ∈ TT) (hsm : sameF ref (T k)) (kk : ∀ v, I l g M cv pc' lv (.ref v :: st) (f v)) : I l g M cv pc lv (.ref a :: st) (bnd (gA' a ci k) f) := by
  subst hp
  refine I_rd (sv := fun v => .ref v :: st) (fun h z hz => ?_) kk
  unfold gA' at hz
  split at hz
  · rename_i v hv
    cases hz
    obtain ⟨fs, h1, h2⟩ := fld_some hv
    exact ⟨v, rfl, fun p e s m args below meth c R H locs cells slots Q ls B hr hS _ _ _ w => va_get B.1 B.2.1 B.2.2.2.2.1 hc.2.1 B.2.2.2.1 B.2.2.2.2.2.2.2.2.2.1.1 (hr.P h1) 0 rfl hc.1 k hk (B.2.2.2.2.1 _ hl) (hsm args s B.2.2.2.2.1) h2 hd w⟩
  · cases hz
theorem I_getO {f : Option Nat → Mo α} (pc' : Nat) (hd : decode (mC M) pc = .ok (.getfield index, 3)) (hp : pc + 3 = pc') (hc : clOK ci C T N ty) (hk : k < N) (hl : Cond.fieldLink (mY M).cls index ref (T k).2.1 (T k).2.2.1 ∈ TT) (hsm : sameF ref (T k)) (kk : ∀ v, I l g M cv pc' lv (va_rf v :: st) (f v)) : I l g M cv pc lv (.ref a :: st) (bnd (gO a ci k) f) := by
  subst hp
  refine I_rd (sv := fun v => va_rf v :: st) (fun h z hz => ?_) kk
  unfold gO at hz
  split at hz
  · rename_i v hv
    cases hz
    obtain ⟨fs, h1, h2⟩ := fld_some hv
    exact ⟨some v, rfl, fun p e s m args below meth c R H locs cells slots Q ls B hr hS _ _ _ w => va_get (v := .ref v) B.1 B.2.1 B.2.2.2.2.1 hc.2.1 B.2.2.2.1 B.2.2.2.2.2.2.2.2.2.1.1 (hr.P h1) 0 rfl hc.1 k hk (B.2.2.2.2.1 _ hl) (hsm args s B.2.2.2.2.1) h2 hd w⟩
  · rename_i hv
    cases hz
    obtain ⟨fs, h1, h2⟩ := fld_some hv
    exact ⟨none, rfl, fun p e s m args below meth c R H locs cells slots Q ls B hr hS _ _ _ w => va_get (v := .null) B.1 B.2.1 B.2.2.2.2.1 hc.2.1 B.2.2.2.1 B.2.2.2.2.2.2.2.2.2.1.1 (hr.P h1) 0 rfl hc.1 k hk (B.2.2.2.2.1 _ hl) (hsm args s B.2.2.2.2.1) h2 hd w⟩
  · cases hz
theorem pV_some {a ci k : Nat} {v : Value} {h : AH} {z : (Unit ⊕ String) × AH} (e : pV a ci k v h = some z) : ∃ fs : List Value, h.2.2 a = some (.inr (ci, fs)) ∧ k < fs.length ∧ z = (.inl (), hset h a (.inr (ci, fs.set k v))) := by
  unfold pV at e
  split at e
  · rename_i o ho
    split at e
    · rename_i hc
      obtain ⟨rfl, h2⟩ := hc
      cases e
      exact ⟨o.2, ho, h2, rfl⟩
    · cases e
  · cases e
theorem hset_le {h : AH} {a : Nat} {e : AE} : h.1 ≤ (hset h a e).1 ∧ h.2.1 ≤ (hset h a e).2.1 := ⟨Nat.le_refl _, Nat.le_refl _⟩
/-- a field that isn't final -/
theorem I_put {v : Value} {f : Unit → Mo α} (pc' : Nat) (hd : decode (mC M) pc = .ok (.putfield index, 3)) (hp : pc + 3 = pc') (hc : clOK ci C T N ty) (hk : k < N) (hl : Cond.fieldLink (mY M).cls index ref (T k).2.1 (T k).2.2.1 ∈ TT) (hsm : sameF ref (T k)) (hfin : (T k).2.2.2 = false) (hn : narrow (ty k) v = v) (hfit : fits (ty k) v = true) (kk : I l g M cv pc' lv st (f ())) : I l g M cv pc lv (v :: .ref a :: st) (bnd (pV a ci k v) f) := by
  subst hp
  refine I_wr (sv := fun _ => st) (fun h z hz => ?_) (fun _ => kk)
  obtain ⟨fs, h1, h2, rfl⟩ := pV_some hz
  refine ⟨(), _, rfl, hset_le.1, hset_le.2, ?_⟩
  intro p e s m args below meth c R H locs cells slots Q ls B hr hS _ _ _ _ _ w
  obtain ⟨b1, b2, b3, hown, hts, b6, b7, b8, b9, ⟨hK, b10⟩, b11⟩ := B
  obtain ⟨hcl, hin, hty, hnm⟩ := hc
  have hap := va_apart (own := (mY M).cls) hts hin ty hty hnm hK hcl
  obtain ⟨r, r1, cell, q1, q2, q3, q4⟩ := hr.P h1 0 _ rfl
  have hrr : r = (C, T, N) := Option.some.inj (r1.symm.trans hcl)
  subst hrr
  obtain ⟨hSl, hfc, kC, hkC, hkind⟩ := hK.1 ci _ hcl
  obtain ⟨cf, kf, fi, fx, hi, hsl⟩ := hSl k hk
  have hlay := hts _ (hin _ (u_in_lay hk))
  unfold u_lay at hlay
  rw [if_neg (by rw [hfin]; decide)] at hlay
  have hst := (u_facts hfc hkC (u_lays hts hin hk) hi).1
  have h6 := u_store hfc hkC hkind hlay hi (hty k hk) hn hfit
  refine W.putK b1 b2 (f := fx) ⟨hown, hts _ hl, ⟨_, _, _, hsm args s hts _ hi⟩, hst⟩ (by rw [q2]; exact h6) q1 q3 (by rw [hsl]; exact k2_hasslot (q4 k hk)) rfl rfl hd fun H' e1 e2 e3 => ?_
  rw [hsl] at e1 ⊢
  have hrep : rep g (hset h a (.inr (ci, fs.set k v))) H' := hr.set h1 ⟨_, hcl, t_OB.to (V := updV (vp_V fs) k v) ⟨_, e1, q2, q3, t_set q4 hap hk v⟩ (fun j _ => vp_updV_set h2 v j)⟩ e2 e3
  have := w H' _ hrep (hS.put (k := gD g |>.2 ci k) e2 e3 (hr.2 a _ h1).1)
  simpa [hset] using this
/-- a final field, in a constructor -/
theorem I_putF {v : Value} {f : Unit → Mo α} (pc' : Nat) (hd : decode (mC M) pc = .ok (.putfield index, 3)) (hp : pc + 3 = pc') (hc : clOK ci C T N ty) (hk : k < N) (hl : Cond.fieldLink (mY M).cls index ref (T k).2.1 (T k).2.2.1 ∈ TT) (hsm : sameF ref (T k)) (hfin : (T k).2.2.2 = true) (hin2 : (mY M).name = "<init>") (hdecl : (T k).1 = (mY M).cls) (hn : narrow (ty k) v = v) (hfit : fits (ty k) v = true) (kk : I l g M cv pc' lv st (f ())) : I l g M cv pc lv (v :: .ref a :: st) (bnd (pV a ci k v) f) := by
  subst hp
  refine I_wr (sv := fun _ => st) (fun h z hz => ?_) (fun _ => kk)
  obtain ⟨fs, h1, h2, rfl⟩ := pV_some hz
  refine ⟨(), _, rfl, hset_le.1, hset_le.2, ?_⟩
  intro p e s m args below meth c R H locs cells slots Q ls B hr hS _ _ _ _ _ w
  obtain ⟨b1, b2, b3, hown, hts, b6, b7, b8, b9, ⟨hK, b10⟩, b11⟩ := B
  obtain ⟨hcl, hin, hty, hnm⟩ := hc
  have hap := va_apart (own := (mY M).cls) hts hin ty hty hnm hK hcl
  obtain ⟨r, r1, cell, q1, q2, q3, q4⟩ := hr.P h1 0 _ rfl
  have hrr : r = (C, T, N) := Option.some.inj (r1.symm.trans hcl)
  subst hrr
  obtain ⟨hSl, hfc, kC, hkC, hkind⟩ := hK.1 ci _ hcl
  obtain ⟨cf, kf, fi, fx, hi, hsl⟩ := hSl k hk
  have hlay := hts _ (hin _ (u_in_lay hk))
  unfold u_lay at hlay
  rw [if_pos hfin] at hlay
  have hst := (u_facts hfc hkC (u_lays hts hin hk) hi).1
  have hcf : m.cls = cf := by
    obtain ⟨_, _, c', _, _, _, -, -, hf', -, -, -, hown2, -⟩ := Cond.laysFinal_spec hlay
    have e1 : c' = cf := by have := hi.symm.trans hf'; simp at this; exact this.1.symm
    rw [hdecl] at hown2
    rw [← e1]; exact Option.some.inj (hown.symm.trans hown2)
  have h6 := u_fits hfc hkC hkind (Or.inr hlay) hi (hty k hk) hn hfit
  refine W.putFinK b1 b2 hown (hts _ hl) (hsm args s hts _ hi) hst hcf (b8.trans hin2) (by rw [q2]; exact h6) q1 q3 (by rw [hsl]; exact k2_hasslot (q4 k hk)) rfl rfl hd fun H' e1 e2 e3 => ?_
  rw [hsl] at e1 ⊢
  have hrep : rep g (hset h a (.inr (ci, fs.set k v))) H' := hr.set h1 ⟨_, hcl, t_OB.to (V := updV (vp_V fs) k v) ⟨_, e1, q2, q3, t_set q4 hap hk v⟩ (fun j _ => vp_updV_set h2 v j)⟩ e2 e3
  have := w H' _ hrep (hS.put (k := gD g |>.2 ci k) e2 e3 (hr.2 a _ h1).1)
  simpa [hset] using this
/-- a boolean field -/
theorem I_putZ {v : Int32} {f : Unit → Mo α} (pc' : Nat) (hd : decode (mC M) pc = .ok (.putfield index, 3)) (hp : pc + 3 = pc') (hc : clOK ci C T N ty) (hk : k < N) (hl : Cond.fieldLink (mY M).cls index ref (T k).2.1 (T k).2.2.1 ∈ TT) (hsm : sameF ref (T k)) (hfin : (T k).2.2.2 = false) (hz : ty k = .boolean) (kk : I l g M cv pc' lv st (f ())) : I l g M cv pc lv (.int v :: .ref a :: st) (bnd (pZ a ci k v) f) := by
  by_cases hv : v = 0 ∨ v = 1
  · have e : pZ a ci k v = pV a ci k (.int v) := by funext h; simp [pZ, hv]
    rw [e]
    refine I_put pc' hd hp hc hk hl hsm hfin ?_ ?_ kk
    · rw [hz]; rcases hv with rfl | rfl <;> rfl
    · rw [hz]; rcases hv with rfl | rfl <;> rfl
  · intro h y hy
    have : bnd (pZ a ci k v) f h = none := by simp [bnd, pZ, hv]
    rw [this] at hy
    cases hy
end GET
end MEM
