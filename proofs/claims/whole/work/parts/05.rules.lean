/-! rows of the judgement I: one a kind of instruction -/
section RULES
variable {α β : Type} {l : Launch} {g : GX} {M : MS} {cv : α → Option Value} {pc : Nat} {lv lv' : List (Nat × Value)} {st st' : List Value} {K K1 K2 : Mo α}
theorem I_of {pc2 : Nat} (hw : ∀ (p : Program) (e : Env) (s : State) (m : MethodId) (args : Array Value) (below : List Frame) (meth : Method) (c : Code) (R : Room) (H : Heap) (locs : List Loc) (cells slots : Nat) (Q : State → Prop) (ls : Array Slot), bdy l g M p s m args meth c → lv_has ls (mL M) lv → va_S (gA g) s.heap H locs → mF M ≤ R.frames → mW M ≤ R.locals →
      (∀ ls' : Array Slot, lv_has ls' (mL M) lv' → W p l e R s m args below meth c H locs cells slots Q (F0 m pc2 ls' st')) → W p l e R s m args below meth c H locs cells slots Q (F0 m pc ls st)) (k : I l g M cv pc2 lv' st' K) : I l g M cv pc lv st K := by
  intro h y hy
  obtain ⟨a, b, w⟩ := k h y hy
  refine ⟨a, b, ?_⟩
  intro p e s m args below meth c R H locs cells slots mc ms ls B f1 f2 f3 f4 f5 f6 hr hS hl
  exact hw p e s m args below meth c R H locs cells slots _ ls B hl hS f1 f2 (fun ls' hl' => w p e s m args below meth c R H locs cells slots mc ms ls' B f1 f2 f3 f4 f5 f6 hr hS hl')
theorem I_br {cnd : Prop} [Decidable cnd] {pc1 pc2 : Nat} (hw : ∀ (p : Program) (e : Env) (s : State) (m : MethodId) (args : Array Value) (below : List Frame) (meth : Method) (c : Code) (R : Room) (H : Heap) (locs : List Loc) (cells slots : Nat) (Q : State → Prop) (ls : Array Slot), bdy l g M p s m args meth c →
      (cnd → W p l e R s m args below meth c H locs cells slots Q (F0 m pc1 ls st')) → (¬ cnd → W p l e R s m args below meth c H locs cells slots Q (F0 m pc2 ls st')) → W p l e R s m args below meth c H locs cells slots Q (F0 m pc ls st)) (k1 : cnd → I l g M cv pc1 lv st' K1) (k2 : ¬ cnd → I l g M cv pc2 lv st' K2) : I l g M cv pc lv st (if cnd then K1 else K2) := by
  intro h y hy
  by_cases hc : cnd
  · rw [if_pos hc] at hy
    obtain ⟨a, b, w⟩ := k1 hc h y hy
    refine ⟨a, b, ?_⟩
    intro p e s m args below meth c R H locs cells slots mc ms ls B f1 f2 f3 f4 f5 f6 hr hS hl
    exact hw p e s m args below meth c R H locs cells slots _ ls B (fun _ => w p e s m args below meth c R H locs cells slots mc ms ls B f1 f2 f3 f4 f5 f6 hr hS hl) (fun n => absurd hc n)
  · rw [if_neg hc] at hy
    obtain ⟨a, b, w⟩ := k2 hc h y hy
    refine ⟨a, b, ?_⟩
    intro p e s m args below meth c R H locs cells slots mc ms ls B f1 f2 f3 f4 f5 f6 hr hS hl
    exact hw p e s m args below meth c R H locs cells slots _ ls B (fun n => absurd n hc) (fun _ => w p e s m args below meth c R H locs cells slots mc ms ls B f1 f2 f3 f4 f5 f6 hr hS hl)
/-- a test that no instruction makes: K's own 'if' -/
theorem I_case {cnd : Prop} [Decidable cnd] (k1 : cnd → I l g M cv pc lv st K1) (k2 : ¬ cnd → I l g M cv pc lv st K2) : I l g M cv pc lv st (if cnd then K1 else K2) := by
  intro h y hy
  by_cases hc : cnd
  · rw [if_pos hc] at hy; exact k1 hc h y hy
  · rw [if_neg hc] at hy; exact k2 hc h y hy
theorem I_flr : I l g M cv pc lv st (flr : Mo α) := fun _ _ hy => by cases hy
/-- fewer locals, or in another order -/
theorem I_sub (lv2 : List (Nat × Value)) (ks : List Nat) (hs : lv_pick lv ks = lv2) (k : I l g M cv pc lv2 st K) : I l g M cv pc lv st K :=
  I_of (fun p e s m args below meth c R H locs cells slots Q ls B hl hS _ _ w => w ls (lv_sub hl ks hs)) k
theorem I_eq {K2 : Mo α} (e : K = K2) (k : I l g M cv pc lv st K2) : I l g M cv pc lv st K := e ▸ k

theorem I_iload {i : Nat} {x : Int32} (n : Nat) (pc' : Nat) (hd : decode (mC M) pc = .ok (.iload i, 2)) (hp : pc + 2 = pc') (hn : lv[n]? = some (i, .int x)) (k : I l g M cv pc' lv (.int x :: st) K) : I l g M cv pc lv (st) K := by
  subst hp
  exact I_of (fun p e s m args below meth c R H locs cells slots Q ls B hl hS f1 f2 w => lv_iload B.1 B.2.1 hd (lv_at hl n hn) (w ls hl)) k
theorem I_iload_n {j : Fin 4} {i : Nat} {x : Int32} (n : Nat) (pc' : Nat) (hd : decode (mC M) pc = .ok (.iload_n j, 1)) (hp : pc + 1 = pc') (hi : (j : Nat) = i) (hn : lv[n]? = some (i, .int x)) (k : I l g M cv pc' lv (.int x :: st) K) : I l g M cv pc lv (st) K := by
  subst hp
  exact I_of (fun p e s m args below meth c R H locs cells slots Q ls B hl hS f1 f2 w => lv_iload_n B.1 B.2.1 hd hi (lv_at hl n hn) (w ls hl)) k
theorem I_lload {i : Nat} {x : Int64} (n : Nat) (pc' : Nat) (hd : decode (mC M) pc = .ok (.lload i, 2)) (hp : pc + 2 = pc') (hn : lv[n]? = some (i, .long x)) (k : I l g M cv pc' lv (.long x :: st) K) : I l g M cv pc lv (st) K := by
  subst hp
  exact I_of (fun p e s m args below meth c R H locs cells slots Q ls B hl hS f1 f2 w => lv_lload B.1 B.2.1 hd (lv_at hl n hn) (w ls hl)) k
theorem I_lload_n {j : Fin 4} {i : Nat} {x : Int64} (n : Nat) (pc' : Nat) (hd : decode (mC M) pc = .ok (.lload_n j, 1)) (hp : pc + 1 = pc') (hi : (j : Nat) = i) (hn : lv[n]? = some (i, .long x)) (k : I l g M cv pc' lv (.long x :: st) K) : I l g M cv pc lv (st) K := by
  subst hp
  exact I_of (fun p e s m args below meth c R H locs cells slots Q ls B hl hS f1 f2 w => lv_lload_n B.1 B.2.1 hd hi (lv_at hl n hn) (w ls hl)) k
theorem I_aload {i : Nat} {x : Nat} (n : Nat) (pc' : Nat) (hd : decode (mC M) pc = .ok (.aload i, 2)) (hp : pc + 2 = pc') (hn : lv[n]? = some (i, .ref x)) (k : I l g M cv pc' lv (.ref x :: st) K) : I l g M cv pc lv (st) K := by
  subst hp
  exact I_of (fun p e s m args below meth c R H locs cells slots Q ls B hl hS f1 f2 w => lv_aload B.1 B.2.1 hd (lv_at hl n hn) (w ls hl)) k
theorem I_aload_n {j : Fin 4} {i : Nat} {x : Nat} (n : Nat) (pc' : Nat) (hd : decode (mC M) pc = .ok (.aload_n j, 1)) (hp : pc + 1 = pc') (hi : (j : Nat) = i) (hn : lv[n]? = some (i, .ref x)) (k : I l g M cv pc' lv (.ref x :: st) K) : I l g M cv pc lv (st) K := by
  subst hp
  exact I_of (fun p e s m args below meth c R H locs cells slots Q ls B hl hS f1 f2 w => lv_aload_n B.1 B.2.1 hd hi (lv_at hl n hn) (w ls hl)) k
theorem I_aloadN {i : Nat} (n : Nat) (pc' : Nat) (hd : decode (mC M) pc = .ok (.aload i, 2)) (hp : pc + 2 = pc') (hn : lv[n]? = some (i, .null)) (k : I l g M cv pc' lv (.null :: st) K) : I l g M cv pc lv (st) K := by
  subst hp
  exact I_of (fun p e s m args below meth c R H locs cells slots Q ls B hl hS f1 f2 w => lv_aloadN B.1 B.2.1 hd (lv_at hl n hn) (w ls hl)) k
theorem I_aload_nN {j : Fin 4} {i : Nat} (n : Nat) (pc' : Nat) (hd : decode (mC M) pc = .ok (.aload_n j, 1)) (hp : pc + 1 = pc') (hi : (j : Nat) = i) (hn : lv[n]? = some (i, .null)) (k : I l g M cv pc' lv (.null :: st) K) : I l g M cv pc lv (st) K := by
  subst hp
  exact I_of (fun p e s m args below meth c R H locs cells slots Q ls B hl hS f1 f2 w => lv_aload_nN B.1 B.2.1 hd hi (lv_at hl n hn) (w ls hl)) k
theorem I_istore {i : Nat} {x : Int32} (pc' : Nat) (lv2 : List (Nat × Value)) (hd : decode (mC M) pc = .ok (.istore i, 2)) (hp : pc + 2 = pc') (hn : i < mL M) (hv : (i, Value.int x) :: lv.filter (fun q => !(q.1 == i) && !(q.1 + 1 == i && q.2.category == 2)) = lv2) (k : I l g M cv pc' lv2 st K) : I l g M cv pc lv (.int x :: st) K := by
  subst hp
  exact I_of (fun p e s m args below meth c R H locs cells slots Q ls B hl hS _ _ w => lv_istore B.1 B.2.1 hd hl hn hv w) k
theorem I_istore_n {j : Fin 4} {i : Nat} {x : Int32} (pc' : Nat) (lv2 : List (Nat × Value)) (hd : decode (mC M) pc = .ok (.istore_n j, 1)) (hp : pc + 1 = pc') (hi : (j : Nat) = i) (hn : i < mL M) (hv : (i, Value.int x) :: lv.filter (fun q => !(q.1 == i) && !(q.1 + 1 == i && q.2.category == 2)) = lv2) (k : I l g M cv pc' lv2 st K) : I l g M cv pc lv (.int x :: st) K := by
  subst hp
  exact I_of (fun p e s m args below meth c R H locs cells slots Q ls B hl hS _ _ w => lv_istore_n B.1 B.2.1 hd hi hl hn hv w) k
theorem I_lstore {i : Nat} {x : Int64} (pc' : Nat) (lv2 : List (Nat × Value)) (hd : decode (mC M) pc = .ok (.lstore i, 2)) (hp : pc + 2 = pc') (hn : i + 1 < mL M) (hv : (i, Value.long x) :: lv.filter (fun q => !(q.1 == i) && (!(q.1 == i + 1) && !(q.1 + 1 == i && q.2.category == 2))) = lv2) (k : I l g M cv pc' lv2 st K) : I l g M cv pc lv (.long x :: st) K := by
  subst hp
  exact I_of (fun p e s m args below meth c R H locs cells slots Q ls B hl hS _ _ w => lv_lstore B.1 B.2.1 hd hl hn hv w) k
theorem I_lstore_n {j : Fin 4} {i : Nat} {x : Int64} (pc' : Nat) (lv2 : List (Nat × Value)) (hd : decode (mC M) pc = .ok (.lstore_n j, 1)) (hp : pc + 1 = pc') (hi : (j : Nat) = i) (hn : i + 1 < mL M) (hv : (i, Value.long x) :: lv.filter (fun q => !(q.1 == i) && (!(q.1 == i + 1) && !(q.1 + 1 == i && q.2.category == 2))) = lv2) (k : I l g M cv pc' lv2 st K) : I l g M cv pc lv (.long x :: st) K := by
  subst hp
  exact I_of (fun p e s m args below meth c R H locs cells slots Q ls B hl hS _ _ w => lv_lstore_n B.1 B.2.1 hd hi hl hn hv w) k
theorem I_astore {i : Nat} {x : Nat} (pc' : Nat) (lv2 : List (Nat × Value)) (hd : decode (mC M) pc = .ok (.astore i, 2)) (hp : pc + 2 = pc') (hn : i < mL M) (hv : (i, Value.ref x) :: lv.filter (fun q => !(q.1 == i) && !(q.1 + 1 == i && q.2.category == 2)) = lv2) (k : I l g M cv pc' lv2 st K) : I l g M cv pc lv (.ref x :: st) K := by
  subst hp
  exact I_of (fun p e s m args below meth c R H locs cells slots Q ls B hl hS _ _ w => lv_astore B.1 B.2.1 hd hl hn hv w) k
theorem I_astore_n {j : Fin 4} {i : Nat} {x : Nat} (pc' : Nat) (lv2 : List (Nat × Value)) (hd : decode (mC M) pc = .ok (.astore_n j, 1)) (hp : pc + 1 = pc') (hi : (j : Nat) = i) (hn : i < mL M) (hv : (i, Value.ref x) :: lv.filter (fun q => !(q.1 == i) && !(q.1 + 1 == i && q.2.category == 2)) = lv2) (k : I l g M cv pc' lv2 st K) : I l g M cv pc lv (.ref x :: st) K := by
  subst hp
  exact I_of (fun p e s m args below meth c R H locs cells slots Q ls B hl hS _ _ w => lv_astore_n B.1 B.2.1 hd hi hl hn hv w) k
theorem I_iinc {i : Nat} {n : Int} {x : Int32} (pc' : Nat) (v : Int32) (lv2 : List (Nat × Value)) (q : Nat) (hd : decode (mC M) pc = .ok (.iinc i n, 3)) (hp : pc + 3 = pc') (hq : lv[q]? = some (i, .int x)) (hv : x + Int32.ofInt n = v) (hn : i < mL M) (he : (i, Value.int v) :: lv.filter (fun q => !(q.1 == i) && !(q.1 + 1 == i && q.2.category == 2)) = lv2) (k : I l g M cv pc' lv2 st K) : I l g M cv pc lv st K := by
  subst hp
  exact I_of (fun p e s m args below meth c R H locs cells slots Q ls B hl hS _ _ w => lv_iinc B.1 B.2.1 hd hl hq hv hn he w) k
theorem I_iconst {n : Int} (v : Int32) (pc' : Nat) (hd : decode (mC M) pc = .ok (.iconst n, 1)) (hp : pc + 1 = pc') (hv : Int32.ofInt n = v) (k : I l g M cv pc' lv (.int v :: st) K) : I l g M cv pc lv (st) K := by
  subst hp
  exact I_of (fun p e s m args below meth c R H locs cells slots Q ls B hl hS f1 f2 w => lv_iconst B.1 B.2.1 hd hv (w ls hl)) k
theorem I_bipush {n : Int} (v : Int32) (pc' : Nat) (hd : decode (mC M) pc = .ok (.bipush n, 2)) (hp : pc + 2 = pc') (hv : (Int8.ofInt n).toInt32 = v) (k : I l g M cv pc' lv (.int v :: st) K) : I l g M cv pc lv (st) K := by
  subst hp
  exact I_of (fun p e s m args below meth c R H locs cells slots Q ls B hl hS f1 f2 w => lv_bipush B.1 B.2.1 hd hv (w ls hl)) k
theorem I_sipush {n : Int} (v : Int32) (pc' : Nat) (hd : decode (mC M) pc = .ok (.sipush n, 3)) (hp : pc + 3 = pc') (hv : (Int16.ofInt n).toInt32 = v) (k : I l g M cv pc' lv (.int v :: st) K) : I l g M cv pc lv (st) K := by
  subst hp
  exact I_of (fun p e s m args below meth c R H locs cells slots Q ls B hl hS f1 f2 w => lv_sipush B.1 B.2.1 hd hv (w ls hl)) k
theorem I_lconst {n : Fin 2} (v : Int64) (pc' : Nat) (hd : decode (mC M) pc = .ok (.lconst n, 1)) (hp : pc + 1 = pc') (hv : Int64.ofNat (n : Nat) = v) (k : I l g M cv pc' lv (.long v :: st) K) : I l g M cv pc lv (st) K := by
  subst hp
  exact I_of (fun p e s m args below meth c R H locs cells slots Q ls B hl hS f1 f2 w => lv_lconst B.1 B.2.1 hd hv (w ls hl)) k
theorem I_ldc {index : Nat} {v : Int32} (pc' : Nat) (hd : decode (mC M) pc = .ok (.ldc index, 2)) (hp : pc + 2 = pc') (hw : Cond.constant (mY M).cls index v ∈ TT) (k : I l g M cv pc' lv (.int v :: st) K) : I l g M cv pc lv (st) K := by
  subst hp
  exact I_of (fun p e s m args below meth c R H locs cells slots Q ls B hl hS f1 f2 w => lv_ldc B.1 B.2.1 B.2.2.2.1 (B.2.2.2.2.1 _ hw) hd (w ls hl)) k
theorem I_aconst_null  (pc' : Nat) (hd : decode (mC M) pc = .ok (.aconst_null, 1)) (hp : pc + 1 = pc') (k : I l g M cv pc' lv (.null :: st) K) : I l g M cv pc lv (st) K := by
  subst hp
  exact I_of (fun p e s m args below meth c R H locs cells slots Q ls B hl hS f1 f2 w => lv_null B.1 B.2.1 hd (w ls hl)) k
theorem I_iadd {x y : Int32} (pc' : Nat) (hd : decode (mC M) pc = .ok (.iadd, 1)) (hp : pc + 1 = pc') (k : I l g M cv pc' lv (.int (x + y) :: st) K) : I l g M cv pc lv (.int y :: .int x :: st) K := by
  subst hp
  exact I_of (fun p e s m args below meth c R H locs cells slots Q ls B hl hS f1 f2 w => lv_iadd B.1 B.2.1 hd (w ls hl)) k
theorem I_isub {x y : Int32} (pc' : Nat) (hd : decode (mC M) pc = .ok (.isub, 1)) (hp : pc + 1 = pc') (k : I l g M cv pc' lv (.int (x - y) :: st) K) : I l g M cv pc lv (.int y :: .int x :: st) K := by
  subst hp
  exact I_of (fun p e s m args below meth c R H locs cells slots Q ls B hl hS f1 f2 w => lv_isub B.1 B.2.1 hd (w ls hl)) k
theorem I_imul {x y : Int32} (pc' : Nat) (hd : decode (mC M) pc = .ok (.imul, 1)) (hp : pc + 1 = pc') (k : I l g M cv pc' lv (.int (x * y) :: st) K) : I l g M cv pc lv (.int y :: .int x :: st) K := by
  subst hp
  exact I_of (fun p e s m args below meth c R H locs cells slots Q ls B hl hS f1 f2 w => lv_imul B.1 B.2.1 hd (w ls hl)) k
theorem I_iand {x y : Int32} (pc' : Nat) (hd : decode (mC M) pc = .ok (.iand, 1)) (hp : pc + 1 = pc') (k : I l g M cv pc' lv (.int (x &&& y) :: st) K) : I l g M cv pc lv (.int y :: .int x :: st) K := by
  subst hp
  exact I_of (fun p e s m args below meth c R H locs cells slots Q ls B hl hS f1 f2 w => lv_iand B.1 B.2.1 hd (w ls hl)) k
theorem I_ishr {x y : Int32} (pc' : Nat) (hd : decode (mC M) pc = .ok (.ishr, 1)) (hp : pc + 1 = pc') (k : I l g M cv pc' lv (.int (x >>> (y &&& 31)) :: st) K) : I l g M cv pc lv (.int y :: .int x :: st) K := by
  subst hp
  exact I_of (fun p e s m args below meth c R H locs cells slots Q ls B hl hS f1 f2 w => lv_ishr B.1 B.2.1 hd (w ls hl)) k
theorem I_lmul {x y : Int64} (pc' : Nat) (hd : decode (mC M) pc = .ok (.lmul, 1)) (hp : pc + 1 = pc') (k : I l g M cv pc' lv (.long (x * y) :: st) K) : I l g M cv pc lv (.long y :: .long x :: st) K := by
  subst hp
  exact I_of (fun p e s m args below meth c R H locs cells slots Q ls B hl hS f1 f2 w => lv_lmul B.1 B.2.1 hd (w ls hl)) k
theorem I_i2l {x : Int32} (pc' : Nat) (hd : decode (mC M) pc = .ok (.i2l, 1)) (hp : pc + 1 = pc') (k : I l g M cv pc' lv (.long x.toInt64 :: st) K) : I l g M cv pc lv (.int x :: st) K := by
  subst hp
  exact I_of (fun p e s m args below meth c R H locs cells slots Q ls B hl hS f1 f2 w => lv_i2l B.1 B.2.1 hd rfl (w ls hl)) k
theorem I_l2i {x : Int64} (pc' : Nat) (hd : decode (mC M) pc = .ok (.l2i, 1)) (hp : pc + 1 = pc') (k : I l g M cv pc' lv (.int x.toInt32 :: st) K) : I l g M cv pc lv (.long x :: st) K := by
  subst hp
  exact I_of (fun p e s m args below meth c R H locs cells slots Q ls B hl hS f1 f2 w => lv_l2i B.1 B.2.1 hd rfl (w ls hl)) k
theorem I_lcmp {x y : Int64} (pc' : Nat) (hd : decode (mC M) pc = .ok (.lcmp, 1)) (hp : pc + 1 = pc') (k : I l g M cv pc' lv (.int (lg_cmp x y) :: st) K) : I l g M cv pc lv (.long y :: .long x :: st) K := by
  subst hp
  exact I_of (fun p e s m args below meth c R H locs cells slots Q ls B hl hS f1 f2 w => W.lcmp B.1 B.2.1 hd (w ls hl)) k
theorem I_dup {v : Value} (pc' : Nat) (hd : decode (mC M) pc = .ok (.dup, 1)) (hp : pc + 1 = pc') (hv : v.category = 1) (k : I l g M cv pc' lv (v :: v :: st) K) : I l g M cv pc lv (v :: st) K := by
  subst hp
  exact I_of (fun p e s m args below meth c R H locs cells slots Q ls B hl hS f1 f2 w => lv_dup B.1 B.2.1 hd hv (w ls hl)) k
theorem I_pop {v : Value} (pc' : Nat) (hd : decode (mC M) pc = .ok (.pop, 1)) (hp : pc + 1 = pc') (hv : v.category = 1) (k : I l g M cv pc' lv (st) K) : I l g M cv pc lv (v :: st) K := by
  subst hp
  exact I_of (fun p e s m args below meth c R H locs cells slots Q ls B hl hS f1 f2 w => lv_pop B.1 B.2.1 hd hv (w ls hl)) k
theorem I_dup_x1 {v v2 : Value} (pc' : Nat) (hd : decode (mC M) pc = .ok (.dup_x1, 1)) (hp : pc + 1 = pc') (hv : v.category = 1) (hv2 : v2.category = 1) (k : I l g M cv pc' lv (v :: v2 :: v :: st) K) : I l g M cv pc lv (v :: v2 :: st) K := by
  subst hp
  exact I_of (fun p e s m args below meth c R H locs cells slots Q ls B hl hS f1 f2 w => lv_dup_x1 B.1 B.2.1 hd hv hv2 (w ls hl)) k
theorem I_dup2 {v v2 : Value} (pc' : Nat) (hd : decode (mC M) pc = .ok (.dup2, 1)) (hp : pc + 1 = pc') (hv : v.category = 1) (hv2 : v2.category = 1) (k : I l g M cv pc' lv (v :: v2 :: v :: v2 :: st) K) : I l g M cv pc lv (v :: v2 :: st) K := by
  subst hp
  exact I_of (fun p e s m args below meth c R H locs cells slots Q ls B hl hS f1 f2 w => lv_dup2_11 B.1 B.2.1 hd hv hv2 (w ls hl)) k
theorem I_goto {off : Int} (tgt : Nat) (hd : decode (mC M) pc = .ok (.goto off, 3)) (ht : (pc : Int) + off = (tgt : Int)) (k : I l g M cv tgt lv st K) : I l g M cv pc lv st K :=
  I_of (fun p e s m args below meth c R H locs cells slots Q ls B hl hS _ _ w => lv_goto B.1 B.2.1 hd ht (w ls hl)) k
theorem I_if_ne {x : Int32} {off : Int} (tgt pc' : Nat) (hd : decode (mC M) pc = .ok (.ifCond .ne off, 3)) (ht : (pc : Int) + off = (tgt : Int)) (hp : pc + 3 = pc') (k1 : x = 0 → I l g M cv pc' lv st K1) (k2 : ¬ x = 0 → I l g M cv tgt lv st K2) : I l g M cv pc lv (.int x :: st) (if x = 0 then K1 else K2) := by
  subst hp
  exact I_br (fun p e s m args below meth c R H locs cells slots Q ls B w1 w2 => lv_if_ne B.1 B.2.1 hd ht w2 w1) k1 k2
theorem I_icmp_ne {x y : Int32} {off : Int} (tgt pc' : Nat) (hd : decode (mC M) pc = .ok (.if_icmp .ne off, 3)) (ht : (pc : Int) + off = (tgt : Int)) (hp : pc + 3 = pc') (k1 : x = y → I l g M cv pc' lv st K1) (k2 : ¬ x = y → I l g M cv tgt lv st K2) : I l g M cv pc lv (.int y :: .int x :: st) (if x = y then K1 else K2) := by
  subst hp
  exact I_br (fun p e s m args below meth c R H locs cells slots Q ls B w1 w2 => lv_icmp_ne B.1 B.2.1 hd ht w2 w1) k1 k2
theorem I_if_eq {x : Int32} {off : Int} (tgt pc' : Nat) (hd : decode (mC M) pc = .ok (.ifCond .eq off, 3)) (ht : (pc : Int) + off = (tgt : Int)) (hp : pc + 3 = pc') (k1 : x = 0 → I l g M cv tgt lv st K1) (k2 : ¬ (x = 0) → I l g M cv pc' lv st K2) : I l g M cv pc lv (.int x :: st) (if x = 0 then K1 else K2) := by
  subst hp
  exact I_br (fun p e s m args below meth c R H locs cells slots Q ls B w1 w2 => lv_if_eq B.1 B.2.1 hd ht w1 w2) k1 k2
theorem I_if_lt {x : Int32} {off : Int} (tgt pc' : Nat) (hd : decode (mC M) pc = .ok (.ifCond .lt off, 3)) (ht : (pc : Int) + off = (tgt : Int)) (hp : pc + 3 = pc') (k1 : x < 0 → I l g M cv tgt lv st K1) (k2 : ¬ (x < 0) → I l g M cv pc' lv st K2) : I l g M cv pc lv (.int x :: st) (if x < 0 then K1 else K2) := by
  subst hp
  exact I_br (fun p e s m args below meth c R H locs cells slots Q ls B w1 w2 => lv_if_lt B.1 B.2.1 hd ht w1 w2) k1 k2
theorem I_if_ge {x : Int32} {off : Int} (tgt pc' : Nat) (hd : decode (mC M) pc = .ok (.ifCond .ge off, 3)) (ht : (pc : Int) + off = (tgt : Int)) (hp : pc + 3 = pc') (k1 : 0 ≤ x → I l g M cv tgt lv st K1) (k2 : ¬ (0 ≤ x) → I l g M cv pc' lv st K2) : I l g M cv pc lv (.int x :: st) (if 0 ≤ x then K1 else K2) := by
  subst hp
  exact I_br (fun p e s m args below meth c R H locs cells slots Q ls B w1 w2 => lv_if_ge B.1 B.2.1 hd ht w1 w2) k1 k2
theorem I_if_gt {x : Int32} {off : Int} (tgt pc' : Nat) (hd : decode (mC M) pc = .ok (.ifCond .gt off, 3)) (ht : (pc : Int) + off = (tgt : Int)) (hp : pc + 3 = pc') (k1 : 0 < x → I l g M cv tgt lv st K1) (k2 : ¬ (0 < x) → I l g M cv pc' lv st K2) : I l g M cv pc lv (.int x :: st) (if 0 < x then K1 else K2) := by
  subst hp
  exact I_br (fun p e s m args below meth c R H locs cells slots Q ls B w1 w2 => lv_if_gt B.1 B.2.1 hd ht w1 w2) k1 k2
theorem I_if_le {x : Int32} {off : Int} (tgt pc' : Nat) (hd : decode (mC M) pc = .ok (.ifCond .le off, 3)) (ht : (pc : Int) + off = (tgt : Int)) (hp : pc + 3 = pc') (k1 : x ≤ 0 → I l g M cv tgt lv st K1) (k2 : ¬ (x ≤ 0) → I l g M cv pc' lv st K2) : I l g M cv pc lv (.int x :: st) (if x ≤ 0 then K1 else K2) := by
  subst hp
  exact I_br (fun p e s m args below meth c R H locs cells slots Q ls B w1 w2 => lv_if_le B.1 B.2.1 hd ht w1 w2) k1 k2
theorem I_icmp_eq {x y : Int32} {off : Int} (tgt pc' : Nat) (hd : decode (mC M) pc = .ok (.if_icmp .eq off, 3)) (ht : (pc : Int) + off = (tgt : Int)) (hp : pc + 3 = pc') (k1 : x = y → I l g M cv tgt lv st K1) (k2 : ¬ (x = y) → I l g M cv pc' lv st K2) : I l g M cv pc lv (.int y :: .int x :: st) (if x = y then K1 else K2) := by
  subst hp
  exact I_br (fun p e s m args below meth c R H locs cells slots Q ls B w1 w2 => lv_icmp_eq B.1 B.2.1 hd ht w1 w2) k1 k2
theorem I_icmp_lt {x y : Int32} {off : Int} (tgt pc' : Nat) (hd : decode (mC M) pc = .ok (.if_icmp .lt off, 3)) (ht : (pc : Int) + off = (tgt : Int)) (hp : pc + 3 = pc') (k1 : x < y → I l g M cv tgt lv st K1) (k2 : ¬ (x < y) → I l g M cv pc' lv st K2) : I l g M cv pc lv (.int y :: .int x :: st) (if x < y then K1 else K2) := by
  subst hp
  exact I_br (fun p e s m args below meth c R H locs cells slots Q ls B w1 w2 => lv_icmp_lt B.1 B.2.1 hd ht w1 w2) k1 k2
theorem I_icmp_ge {x y : Int32} {off : Int} (tgt pc' : Nat) (hd : decode (mC M) pc = .ok (.if_icmp .ge off, 3)) (ht : (pc : Int) + off = (tgt : Int)) (hp : pc + 3 = pc') (k1 : y ≤ x → I l g M cv tgt lv st K1) (k2 : ¬ (y ≤ x) → I l g M cv pc' lv st K2) : I l g M cv pc lv (.int y :: .int x :: st) (if y ≤ x then K1 else K2) := by
  subst hp
  exact I_br (fun p e s m args below meth c R H locs cells slots Q ls B w1 w2 => lv_icmp_ge B.1 B.2.1 hd ht w1 w2) k1 k2
theorem I_icmp_gt {x y : Int32} {off : Int} (tgt pc' : Nat) (hd : decode (mC M) pc = .ok (.if_icmp .gt off, 3)) (ht : (pc : Int) + off = (tgt : Int)) (hp : pc + 3 = pc') (k1 : y < x → I l g M cv tgt lv st K1) (k2 : ¬ (y < x) → I l g M cv pc' lv st K2) : I l g M cv pc lv (.int y :: .int x :: st) (if y < x then K1 else K2) := by
  subst hp
  exact I_br (fun p e s m args below meth c R H locs cells slots Q ls B w1 w2 => lv_icmp_gt B.1 B.2.1 hd ht w1 w2) k1 k2
theorem I_icmp_le {x y : Int32} {off : Int} (tgt pc' : Nat) (hd : decode (mC M) pc = .ok (.if_icmp .le off, 3)) (ht : (pc : Int) + off = (tgt : Int)) (hp : pc + 3 = pc') (k1 : x ≤ y → I l g M cv tgt lv st K1) (k2 : ¬ (x ≤ y) → I l g M cv pc' lv st K2) : I l g M cv pc lv (.int y :: .int x :: st) (if x ≤ y then K1 else K2) := by
  subst hp
  exact I_br (fun p e s m args below meth c R H locs cells slots Q ls B w1 w2 => lv_icmp_le B.1 B.2.1 hd ht w1 w2) k1 k2
theorem I_ifnull {r : Option Nat} {off : Int} (tgt pc' : Nat) (hd : decode (mC M) pc = .ok (.ifnull off, 3)) (ht : (pc : Int) + off = (tgt : Int)) (hp : pc + 3 = pc') (k1 : r = none → I l g M cv tgt lv st K1) (k2 : ¬ r = none → I l g M cv pc' lv st K2) : I l g M cv pc lv (va_rf r :: st) (if r = none then K1 else K2) := by
  subst hp
  refine I_br (fun p e s m args below meth c R H locs cells slots Q ls B w1 w2 => ?_) k1 k2
  cases r with
  | none => exact lv_ifnullN B.1 B.2.1 hd ht (w1 rfl)
  | some a => exact lv_ifnull B.1 B.2.1 hd (w2 (fun q => by cases q))
theorem I_ifnonnull {r : Option Nat} {off : Int} (tgt pc' : Nat) (hd : decode (mC M) pc = .ok (.ifnonnull off, 3)) (ht : (pc : Int) + off = (tgt : Int)) (hp : pc + 3 = pc') (k1 : r = none → I l g M cv pc' lv st K1) (k2 : ¬ r = none → I l g M cv tgt lv st K2) : I l g M cv pc lv (va_rf r :: st) (if r = none then K1 else K2) := by
  subst hp
  refine I_br (fun p e s m args below meth c R H locs cells slots Q ls B w1 w2 => ?_) k1 k2
  cases r with
  | none => exact lv_ifnonnullN B.1 B.2.1 hd (w1 rfl)
  | some a => exact lv_ifnonnull B.1 B.2.1 hd ht (w2 (fun q => by cases q))
theorem I_acmp_ne {rx ry : Nat} {off : Int} (tgt pc' : Nat) (hd : decode (mC M) pc = .ok (.if_acmp .ne off, 3)) (ht : (pc : Int) + off = (tgt : Int)) (hp : pc + 3 = pc') (k1 : rx = ry → I l g M cv pc' lv st K1) (k2 : ¬ rx = ry → I l g M cv tgt lv st K2) : I l g M cv pc lv (.ref ry :: .ref rx :: st) (if rx = ry then K1 else K2) := by
  subst hp
  exact I_br (fun p e s m args below meth c R H locs cells slots Q ls B w1 w2 => lv_acmp_ne (rx := some rx) (ry := some ry) B.1 B.2.1 hd ht (fun q => w2 (fun z => q (by rw [z]))) (fun q => w1 (Option.some.inj q))) k1 k2
theorem I_acmp_eq {rx ry : Nat} {off : Int} (tgt pc' : Nat) (hd : decode (mC M) pc = .ok (.if_acmp .eq off, 3)) (ht : (pc : Int) + off = (tgt : Int)) (hp : pc + 3 = pc') (k1 : rx = ry → I l g M cv tgt lv st K1) (k2 : ¬ rx = ry → I l g M cv pc' lv st K2) : I l g M cv pc lv (.ref ry :: .ref rx :: st) (if rx = ry then K1 else K2) := by
  subst hp
  exact I_br (fun p e s m args below meth c R H locs cells slots Q ls B w1 w2 => lv_acmp_eq (rx := some rx) (ry := some ry) B.1 B.2.1 hd ht (fun q => w1 (Option.some.inj q)) (fun q => w2 (fun z => q (by rw [z])))) k1 k2
theorem I_tableIn {dflt lo hi : Int} {offs : Array Int} {len : Nat} {x : Int32} {off : Int} (tgt : Nat) (hd : decode (mC M) pc = .ok (.tableswitch dflt lo hi offs, len)) (h1 : ¬ x.toInt < lo) (h2 : ¬ hi < x.toInt) (ho : offs[(x.toInt - lo).toNat]? = some off) (ht : (pc : Int) + off = (tgt : Int)) (k : I l g M cv tgt lv st K) : I l g M cv pc lv (.int x :: st) K :=
  I_of (fun p e s m args below meth c R H locs cells slots Q ls B hl hS _ _ w => lv_tableIn B.1 B.2.1 hd h1 h2 ho ht (w ls hl)) k
theorem I_tableOut {dflt lo hi : Int} {offs : Array Int} {len : Nat} {x : Int32} (tgt : Nat) (hd : decode (mC M) pc = .ok (.tableswitch dflt lo hi offs, len)) (h : x.toInt < lo ∨ hi < x.toInt) (ht : (pc : Int) + dflt = (tgt : Int)) (k : I l g M cv tgt lv st K) : I l g M cv pc lv (.int x :: st) K :=
  I_of (fun p e s m args below meth c R H locs cells slots Q ls B hl hS _ _ w => lv_tableOut B.1 B.2.1 hd h ht (w ls hl)) k
/-- an operation that reads alone: its value is on the stack behind it -/
theorem I_rd {op : Mo β} {f : β → Mo α} {pc2 : Nat} {sv : β → List Value} (hop : ∀ (h : AH) (z : (β ⊕ String) × AH), op h = some z → ∃ v, z = (.inl v, h) ∧ ∀ (p : Program) (e : Env) (s : State) (m : MethodId) (args : Array Value) (below : List Frame) (meth : Method) (c : Code) (R : Room) (H : Heap) (locs : List Loc) (cells slots : Nat) (Q : State → Prop) (ls : Array Slot), bdy l g M p s m args meth c → rep g h H → va_S (gA g) s.heap H locs → mF M ≤ R.frames → mW M ≤ R.locals → lv_has ls (mL M) lv →
      W p l e R s m args below meth c H locs cells slots Q (F0 m pc2 ls (sv v)) → W p l e R s m args below meth c H locs cells slots Q (F0 m pc ls st))
    (k : ∀ v, I l g M cv pc2 lv (sv v) (f v)) : I l g M cv pc lv st (bnd op f) := by
  intro h y hy
  unfold bnd at hy
  cases hz : op h with
  | none => rw [hz] at hy; cases hy
  | some z =>
    obtain ⟨v, rfl, hw⟩ := hop h z hz
    rw [hz] at hy
    obtain ⟨a, b, w⟩ := k v h y hy
    refine ⟨a, b, ?_⟩
    intro p e s m args below meth c R H locs cells slots mc ms ls B f1 f2 f3 f4 f5 f6 hr hS hl
    exact hw p e s m args below meth c R H locs cells slots _ ls B hr hS f1 f2 hl (w p e s m args below meth c R H locs cells slots mc ms ls B f1 f2 f3 f4 f5 f6 hr hS hl)
/-- an operation that writes or makes cells -/
theorem I_wr {op : Mo β} {f : β → Mo α} {pc2 : Nat} {sv : β → List Value} (hop : ∀ (h : AH) (z : (β ⊕ String) × AH), op h = some z → ∃ (v : β) (h2 : AH), z = (.inl v, h2) ∧ h.1 ≤ h2.1 ∧ h.2.1 ≤ h2.2.1 ∧ ∀ (p : Program) (e : Env) (s : State) (m : MethodId) (args : Array Value) (below : List Frame) (meth : Method) (c : Code) (R : Room) (H : Heap) (locs : List Loc) (cells slots : Nat) (Q : State → Prop) (ls : Array Slot), bdy l g M p s m args meth c → rep g h H → va_S (gA g) s.heap H locs → mF M ≤ R.frames → mW M ≤ R.locals → lv_has ls (mL M) lv → cells + (h2.1 - h.1) ≤ R.cells → slots + (h2.2.1 - h.2.1) ≤ R.slots →
      (∀ (H1 : Heap) (locs1 : List Loc), rep g h2 H1 → va_S (gA g) s.heap H1 locs1 → W p l e R s m args below meth c H1 locs1 (cells + (h2.1 - h.1)) (slots + (h2.2.1 - h.2.1)) Q (F0 m pc2 ls (sv v))) → W p l e R s m args below meth c H locs cells slots Q (F0 m pc ls st))
    (k : ∀ v, I l g M cv pc2 lv (sv v) (f v)) : I l g M cv pc lv st (bnd op f) := by
  intro h y hy
  unfold bnd at hy
  cases hz : op h with
  | none => rw [hz] at hy; cases hy
  | some z =>
    obtain ⟨v, h2, rfl, m1, m2, hw⟩ := hop h z hz
    rw [hz] at hy
    obtain ⟨a, b, w⟩ := k v h2 y hy
    refine ⟨Nat.le_trans m1 a, Nat.le_trans m2 b, ?_⟩
    intro p e s m args below meth c R H locs cells slots mc ms ls B f1 f2 f3 f4 f5 f6 hr hS hl
    exact hw p e s m args below meth c R H locs cells slots _ ls B hr hS f1 f2 hl (by omega) (by omega) (fun H1 locs1 hr1 hS1 => w p e s m args below meth c R H1 locs1 _ _ mc ms ls B f1 f2 (by omega) (by omega) f5 f6 hr1 hS1 hl)
theorem I_idiv {x y : Int32} {f : Int32 → Mo α} (pc' : Nat) (hd : decode (mC M) pc = .ok (.idiv, 1)) (hp : pc + 1 = pc') (k : ∀ v, I l g M cv pc' lv (.int v :: st) (f v)) : I l g M cv pc lv (.int y :: .int x :: st) (bnd (divI x y) f) := by
  subst hp
  refine I_rd (sv := fun v => .int v :: st) (fun h z hz => ?_) k
  unfold divI at hz
  by_cases hy : y = 0
  · rw [if_pos hy] at hz; cases hz
  · rw [if_neg hy] at hz; cases hz
    exact ⟨_, rfl, fun p e s m args below meth c R H locs cells slots Q ls B _ _ _ _ _ w => lv_idiv B.1 B.2.1 hd hy w⟩
theorem I_irem {x y : Int32} {f : Int32 → Mo α} (pc' : Nat) (hd : decode (mC M) pc = .ok (.irem, 1)) (hp : pc + 1 = pc') (k : ∀ v, I l g M cv pc' lv (.int v :: st) (f v)) : I l g M cv pc lv (.int y :: .int x :: st) (bnd (remI x y) f) := by
  subst hp
  refine I_rd (sv := fun v => .int v :: st) (fun h z hz => ?_) k
  unfold remI at hz
  by_cases hy : y = 0
  · rw [if_pos hy] at hz; cases hz
  · rw [if_neg hy] at hz; cases hz
    exact ⟨_, rfl, fun p e s m args below meth c R H locs cells slots Q ls B _ _ _ _ _ w => lv_irem B.1 B.2.1 hd hy w⟩
theorem I_ldiv {x y : Int64} {f : Int64 → Mo α} (pc' : Nat) (hd : decode (mC M) pc = .ok (.ldiv, 1)) (hp : pc + 1 = pc') (k : ∀ v, I l g M cv pc' lv (.long v :: st) (f v)) : I l g M cv pc lv (.long y :: .long x :: st) (bnd (divL x y) f) := by
  subst hp
  refine I_rd (sv := fun v => .long v :: st) (fun h z hz => ?_) k
  unfold divL at hz
  by_cases hy : y = 0
  · rw [if_pos hy] at hz; cases hz
  · rw [if_neg hy] at hz; cases hz
    exact ⟨_, rfl, fun p e s m args below meth c R H locs cells slots Q ls B _ _ _ _ _ w => lv_ldiv B.1 B.2.1 hd hy w⟩
theorem I_lrem {x y : Int64} {f : Int64 → Mo α} (pc' : Nat) (hd : decode (mC M) pc = .ok (.lrem, 1)) (hp : pc + 1 = pc') (k : ∀ v, I l g M cv pc' lv (.long v :: st) (f v)) : I l g M cv pc lv (.long y :: .long x :: st) (bnd (remL x y) f) := by
  subst hp
  refine I_rd (sv := fun v => .long v :: st) (fun h z hz => ?_) k
  unfold remL at hz
  by_cases hy : y = 0
  · rw [if_pos hy] at hz; cases hz
  · rw [if_neg hy] at hz; cases hz
    exact ⟨_, rfl, fun p e s m args below meth c R H locs cells slots Q ls B _ _ _ _ _ w => lv_lrem B.1 B.2.1 hd hy w⟩
end RULES
