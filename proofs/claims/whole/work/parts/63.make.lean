/-! operations over the heap that make objects; lists that grow -/
section OPH
variable {α β : Type} {h : AH} {a ci k : Nat} {fs : List Value}
theorem bnd_eq {m : Mo α} {f : α → Mo β} {v : α} {h1 : AH} (e : m h = some (.inl v, h1)) : bnd m f h = f v h1 := by simp only [bnd, e]
theorem gI_eq {v : Int32} (e : h.2.2 a = some (.inr (ci, fs))) (hk : fs[k]? = some (.int v)) : gI a ci k h = some (.inl v, h) := by simp [gI, fld, e, hk]
theorem gA_eq {v : Nat} (e : h.2.2 a = some (.inr (ci, fs))) (hk : fs[k]? = some (.ref v)) : gA' a ci k h = some (.inl v, h) := by simp [gA', fld, e, hk]
theorem pV_eq {v : Value} (e : h.2.2 a = some (.inr (ci, fs))) (hk : k < fs.length) : pV a ci k v h = some (.inl (), hset h a (.inr (ci, fs.set k v))) := by simp [pV, e, hk]
theorem vc_eq {op : Mo α} (e : h.2.2 a = some (.inr (ci, fs))) : vc a ci op h = op h := by simp [vc, e]
theorem newK_eq {c : (Nat → Int32) ⊕ (Nat → Int64) ⊕ (Nat → UInt32) ⊕ (Nat → UInt64) ⊕ (Nat → Option Nat)} {n : Nat} (hn : n ≤ 1000000) : newK k c (nI n) h = some (.inl h.1, (h.1 + 1, h.2.1 + n, va_up h.2.2 h.1 (some (.inl (k, n, c))))) := by
  unfold newK
  rw [if_neg, nI_clamp (by omega)]
  rw [nI_clamp (by omega)]
  intro q
  rcases q with q | q
  · exact nI_pos (by omega) q
  · omega
theorem stR_eq {f : Nat → Option Nat} {m i v : Nat} {o : Nat × List Value} (e : h.2.2 a = some (.inl (3, m, rfA f))) (ev : h.2.2 v = some (.inr o)) (ho : o.1 = 1 ∨ o.1 = 4) (hi : i < m) (hm : m < 2 ^ 31) : stR a (nI i) v h = some (.inl (), hset h a (.inl (3, m, rfA (va_up f i (some v))))) := by
  simp only [stR, e, ev]
  rw [if_pos ⟨trivial, oob_nI hi hm, ho⟩, nI_clamp (by omega)]
theorem okE_t {f : Nat → Option Nat} {n : Nat} (hf : ∀ i, i < n → ∃ (a : Nat) (o : Nat × List Value), f i = some a ∧ h.2.2 a = some (.inr o) ∧ (o.1 = 1 ∨ o.1 = 4)) : okE h f 0 n = true := by
  unfold okE
  rw [List.all_eq_true]
  intro i hi
  obtain ⟨a, o, e1, e2, e3⟩ := hf i (List.mem_range.mp hi)
  rw [Nat.zero_add, e1]
  simp only [e2]
  rcases e3 with e | e <;> simp [e]
theorem acpy_eq {f q : Nat → Option Nat} {m m2 a1 : Nat} (e : h.2.2 a = some (.inl (3, m, rfA f))) (e1 : h.2.2 a1 = some (.inl (3, m2, rfA q))) (hm : m ≤ m2) (hb : m < 2 ^ 31) (hok : okE h f 0 m = true) : acpy a 0 a1 0 (nI m) h = some (.inl (), hset h a1 (.inl (3, m2, rfA (va_cpy f q 0 0 m)))) := by
  simp only [acpy, e, e1]
  have c0 : (0 : Int32).toNatClampNeg = 0 := rfl
  rw [if_pos]
  · rw [c0, nI_clamp hb]
  · rw [c0, nI_clamp hb]
    exact ⟨trivial, trivial, by decide, by decide, nI_pos hb, by omega, by omega, hok⟩
theorem alen_eq {m : Nat} {x : (Nat → Int32) ⊕ (Nat → Int64) ⊕ (Nat → UInt32) ⊕ (Nat → UInt64) ⊕ (Nat → Option Nat)} (e : h.2.2 a = some (.inl (3, m, x))) : alen a h = some (.inl (nI m), h) := by
  unfold alen
  rw [e]
  rfl
theorem up_self {x : Nat} {v : Option AE} {g : Nat → Option AE} : va_up g x v x = v := va_up_self _ _ _
theorem hset_self {x : Nat} {e : AE} : (hset h x e).2.2 x = some e := va_up_self _ _ _
theorem hset_ne {x z : Nat} {e : AE} (hz : z ≠ x) : (hset h x e).2.2 z = h.2.2 z := va_up_ne _ _ hz
end OPH
theorem newLen_eq {t0 mi c : Nat} {h : AH} (h0 : 0 < c) (hc : c ≤ 1000) : f_J8_newLength_cabcc t0 mi (nI c) (nI 1) (nI (c / 2)) h = some (.inl (nI (c + max 1 (c / 2))), h) := by
  unfold f_J8_newLength_cabcc
  have hm : max 1 (c / 2) ≤ c := by omega
  rw [mx_nI (by omega) (by omega), nI_add, nL_0, if_neg, if_neg]
  · rfl
  · rw [show (2147483639 : Int32) = nI 2147483639 from rfl, nI_ltI (by omega) (by omega)]
    omega
  · rw [nI_leI (by omega) (by omega)]
    omega
/-- a list takes one more -/
theorem add_eq {t0 mi b v : Nat} {h : AH} {q : Int32} {n c e : Nat} {f : Nat → Option Nat} {o : Nat × List Value} (hb : h.2.2 b = some (.inr (0, [.int q, .ref (if c = 0 then t0 else e), .int (nI n)]))) (hc : c ≤ 200) (hnc : n ≤ c) (hne : c ≠ 0 → e ≠ t0) (hnew : h.2.2 h.1 = none) (ht : t0 ≠ h.1)
    (hE : c ≠ 0 → h.2.2 e = some (.inl (3, c, rfA f))) (hf : c ≠ 0 → ∀ i, i < n → ∃ (a : Nat) (o : Nat × List Value), f i = some a ∧ h.2.2 a = some (.inr o) ∧ (o.1 = 1 ∨ o.1 = 4)) (hv : h.2.2 v = some (.inr o)) (ho : o.1 = 1 ∨ o.1 = 4) :
    ∃ (h' : AH) (e' c' : Nat) (f' : Nat → Option Nat), f_Jx4a65c_add_9ea2d t0 mi b v h = some (.inl 1, h') ∧ (c' ≠ 0 ∧ n < c' ∧ c' ≤ c + c / 2 + 10) ∧ (c ≠ 0 → ∀ i, i < n → f' i = f i) ∧ f' n = some v ∧
      ((e' = e ∧ c' = c ∧ c ≠ 0 ∧ h'.1 = h.1 ∧ h'.2.1 = h.2.1) ∨ (e' = h.1 ∧ n = c ∧ h'.1 = h.1 + 1 ∧ h'.2.1 = h.2.1 + c')) ∧ h'.2.2 e' = some (.inl (3, c', rfA f')) ∧ h'.2.2 b = some (.inr (0, [.int (q + 1), .ref e', .int (nI (n + 1))])) ∧ ∀ x, x ≠ e' → x ≠ b → h'.2.2 x = h.2.2 x := by
  have hbn : b ≠ h.1 := fun z => by rw [z, hnew] at hb; cases hb
  have hvn : v ≠ h.1 := fun z => by rw [z, hnew] at hv; cases hv
  have hvb : v ≠ b := fun z => by
    rw [z, hb] at hv
    cases hv
    rcases ho with ho | ho <;> cases ho
  have hrt : ∀ g : AH, rtZ (1 : Int32) g = some (.inl 1, g) := fun g => by simp [rtZ]
  unfold f_Jx4a65c_add_9ea2d
  rw [bnd_eq (gI_eq hb rfl), bnd_eq (pV_eq hb (by simp))]
  rw [show (([.int q, .ref (if c = 0 then t0 else e), .int (nI n)] : List Value).set 0 (.int (q + 1))) = [.int (q + 1), .ref (if c = 0 then t0 else e), .int (nI n)] from rfl]
  have h1b : (hset h b (.inr (0, [.int (q + 1), .ref (if c = 0 then t0 else e), .int (nI n)]))).2.2 b = some (.inr (0, [.int (q + 1), .ref (if c = 0 then t0 else e), .int (nI n)])) := hset_self
  rw [bnd_eq (gA_eq h1b rfl), bnd_eq (gI_eq h1b rfl)]
  by_cases c0 : c = 0
  · subst c0
    have n0 : n = 0 := by omega
    subst n0
    rw [if_pos rfl] at h1b ⊢
    have key : vc b 0 (f_Jx4a65c_add_72be8 t0 mi b v t0 (nI 0)) (hset h b (.inr (0, [.int (q + 1), .ref t0, .int (nI 0)]))) = some (.inl (), (hset (hset (hset (h.1 + 1, h.2.1 + 10, va_up (hset h b (.inr (0, [.int (q + 1), .ref t0, .int (nI 0)]))).2.2 h.1 (some (.inl (3, 10, rfA fun _ => none)))) b (.inr (0, [.int (q + 1), .ref h.1, .int (nI 0)]))) h.1 (.inl (3, 10, rfA (va_up (fun _ => none) 0 (some v))))) b (.inr (0, [.int (q + 1), .ref h.1, .int (nI 1)])))) := by
      rw [vc_eq h1b]
      unfold f_Jx4a65c_add_72be8
      rw [bnd_eq (v := 0) (h1 := hset h b (.inr (0, [.int (q + 1), .ref t0, .int (nI 0)]))) (by simp [alenT]), if_pos nI_0]
      have g : vc b 0 (f_Jx4a65c_grow_d5877 t0 mi b) (hset h b (.inr (0, [.int (q + 1), .ref t0, .int (nI 0)]))) = some (.inl h.1, hset (h.1 + 1, h.2.1 + 10, va_up (hset h b (.inr (0, [.int (q + 1), .ref t0, .int (nI 0)]))).2.2 h.1 (some (.inl (3, 10, rfA fun _ => none)))) b (.inr (0, [.int (q + 1), .ref h.1, .int (nI 0)]))) := by
        rw [vc_eq h1b]
        unfold f_Jx4a65c_grow_d5877 f_Jx4a65c_grow_92f84
        rw [bnd_eq (gI_eq h1b rfl)]
        refine bnd_eq (f := rt) (v := h.1) ?_
        rw [vc_eq h1b, bnd_eq (gA_eq h1b rfl), bnd_eq (v := 0) (h1 := hset h b (.inr (0, [.int (q + 1), .ref t0, .int (nI 0)]))) (by simp [alenT]), if_neg (by decide), bnd_eq (gA_eq h1b rfl), if_pos rfl]
        rw [nI_1, nL_10, mx_nI (by decide) (by decide)]
        rw [Nat.max_eq_left (show 0 + 1 ≤ 10 by decide)]
        refine (bnd_eq (v := h.1) (h1 := (h.1 + 1, h.2.1 + 10, va_up (hset h b (.inr (0, [.int (q + 1), .ref t0, .int (nI 0)]))).2.2 h.1 (some (.inl (3, 10, rfA fun _ => none))))) (newK_eq (n := 10) (by decide))).trans ?_
        have h2b : (va_up (hset h b (.inr (0, [.int (q + 1), .ref t0, .int (nI 0)]))).2.2 h.1 (some (.inl (3, 10, rfA fun _ => none)))) b = some (.inr (0, [.int (q + 1), .ref t0, .int (nI 0)])) := by
          rw [va_up_ne _ _ hbn]; exact h1b
        rw [bnd_eq (pV_eq (h := (_, _, _)) h2b (by simp))]
        rfl
      rw [bnd_eq g]
      unfold Jx4a65c_add_72be8_b11
      rw [bnd_eq (stR_eq (m := 10) (f := fun _ => none) (o := o) (by rw [hset_ne (Ne.symm hbn)]; exact up_self) (by rw [hset_ne hvb]; show va_up _ _ _ v = _; rw [va_up_ne _ _ hvn, hset_ne hvb]; exact hv) ho (by decide) (by decide))]
      rw [bnd_eq (pV_eq (fs := [.int (q + 1), .ref h.1, .int (nI 0)]) (by rw [hset_ne hbn]; exact hset_self) (by simp)), nI_1]
      rfl
    rw [bnd_eq key, hrt]
    refine ⟨_, h.1, 10, va_up (fun _ => none) 0 (some v), rfl, ⟨by decide, by decide, by omega⟩, fun z => absurd rfl z, va_up_self _ _ _, Or.inr ⟨rfl, rfl, rfl, rfl⟩, ?_, hset_self, fun x h1 h2 => ?_⟩
    · rw [hset_ne (Ne.symm hbn)]; exact hset_self
    · rw [hset_ne h2, hset_ne h1, hset_ne h2]
      show va_up _ _ _ x = _
      rw [va_up_ne _ _ h1, hset_ne h2]
  · have hE1 := hE c0
    have hen : e ≠ h.1 := fun z => by rw [z, hnew] at hE1; cases hE1
    have heb : e ≠ b := fun z => by rw [z, hb] at hE1; cases hE1
    have hve : v ≠ e := fun z => by rw [z, hE1] at hv; cases hv
    have hnet := hne c0
    rw [if_neg c0] at h1b ⊢
    have h1e : (hset h b (.inr (0, [.int (q + 1), .ref e, .int (nI n)]))).2.2 e = some (.inl (3, c, rfA f)) := by rw [hset_ne heb]; exact hE1
    have hal : alenT t0 e (hset h b (.inr (0, [.int (q + 1), .ref e, .int (nI n)]))) = some (.inl (nI c), hset h b (.inr (0, [.int (q + 1), .ref e, .int (nI n)]))) := by
      unfold alenT
      rw [if_neg hnet]
      exact alen_eq h1e
    by_cases hcn : n = c
    · subst hcn
      have hlen : n + max 1 (n / 2) ≤ 300 := by omega
      have key : vc b 0 (f_Jx4a65c_add_72be8 t0 mi b v e (nI n)) (hset h b (.inr (0, [.int (q + 1), .ref e, .int (nI n)]))) = some (.inl (), (hset (hset (hset (hset (h.1 + 1, h.2.1 + (n + max 1 (n / 2)), va_up (hset h b (.inr (0, [.int (q + 1), .ref e, .int (nI n)]))).2.2 h.1 (some (.inl (3, n + max 1 (n / 2), rfA fun _ => none)))) h.1 (.inl (3, n + max 1 (n / 2), rfA (va_cpy f (fun _ => none) 0 0 n)))) b (.inr (0, [.int (q + 1), .ref h.1, .int (nI n)]))) h.1 (.inl (3, n + max 1 (n / 2), rfA (va_up (va_cpy f (fun _ => none) 0 0 n) n (some v))))) b (.inr (0, [.int (q + 1), .ref h.1, .int (nI (n + 1))])))) := by
        rw [vc_eq h1b]
        unfold f_Jx4a65c_add_72be8
        rw [bnd_eq hal, if_pos rfl]
        have g : vc b 0 (f_Jx4a65c_grow_d5877 t0 mi b) (hset h b (.inr (0, [.int (q + 1), .ref e, .int (nI n)]))) = some (.inl h.1, hset (hset (h.1 + 1, h.2.1 + (n + max 1 (n / 2)), va_up (hset h b (.inr (0, [.int (q + 1), .ref e, .int (nI n)]))).2.2 h.1 (some (.inl (3, n + max 1 (n / 2), rfA fun _ => none)))) h.1 (.inl (3, n + max 1 (n / 2), rfA (va_cpy f (fun _ => none) 0 0 n)))) b (.inr (0, [.int (q + 1), .ref h.1, .int (nI n)]))) := by
          rw [vc_eq h1b]
          unfold f_Jx4a65c_grow_d5877 f_Jx4a65c_grow_92f84
          rw [bnd_eq (gI_eq h1b rfl)]
          refine bnd_eq (f := rt) (v := h.1) ?_
          rw [vc_eq h1b, bnd_eq (gA_eq h1b rfl), bnd_eq hal, if_pos (by rw [nL_0, nI_ltI (by omega) (by omega)]; omega)]
          unfold Jx4a65c_grow_92f84_b20
          rw [nI_1, nI_sub (by omega), Nat.add_sub_cancel_left, pk_shrN (by omega) ((1 : Int32) &&& 31) 1 (by decide)]
          rw [bnd_eq (newLen_eq (by omega) (by omega)), bnd_eq (gA_eq h1b rfl)]
          unfold f_J7_copyOf_1904c f_J7_copyOf_6403c J7_copyOf_6403c_b24
          have cp : (bnd (isA e) fun _ => bnd (if mi = mi then bnd (newK 3 (.inr (.inr (.inr (.inr fun _ => none)))) (nI (n + max 1 (n / 2)))) fun v7 => bnd (alen e) fun v30 => bnd (acpy e (0 : Int32) v7 (0 : Int32) (mn v30 (nI (n + max 1 (n / 2))))) fun _ => rt v7 else flr) fun v6 => rt v6) (hset h b (.inr (0, [.int (q + 1), .ref e, .int (nI n)]))) = some (.inl h.1, hset (h.1 + 1, h.2.1 + (n + max 1 (n / 2)), va_up (hset h b (.inr (0, [.int (q + 1), .ref e, .int (nI n)]))).2.2 h.1 (some (.inl (3, n + max 1 (n / 2), rfA fun _ => none)))) h.1 (.inl (3, n + max 1 (n / 2), rfA (va_cpy f (fun _ => none) 0 0 n)))) := by
            rw [bnd_eq (v := ()) (h1 := hset h b (.inr (0, [.int (q + 1), .ref e, .int (nI n)]))) (by simp [isA, h1e]), if_pos rfl]
            refine bnd_eq (f := rt) (v := h.1) ?_
            refine (bnd_eq (v := h.1) (h1 := (h.1 + 1, h.2.1 + (n + max 1 (n / 2)), va_up (hset h b (.inr (0, [.int (q + 1), .ref e, .int (nI n)]))).2.2 h.1 (some (.inl (3, n + max 1 (n / 2), rfA fun _ => none))))) (newK_eq (by omega))).trans ?_
            have h2e : (va_up (hset h b (.inr (0, [.int (q + 1), .ref e, .int (nI n)]))).2.2 h.1 (some (.inl (3, n + max 1 (n / 2), rfA fun _ => none)))) e = some (.inl (3, n, rfA f)) := by rw [va_up_ne _ _ hen]; exact h1e
            rw [bnd_eq (v := nI n) (h1 := (h.1 + 1, h.2.1 + (n + max 1 (n / 2)), va_up (hset h b (.inr (0, [.int (q + 1), .ref e, .int (nI n)]))).2.2 h.1 (some (.inl (3, n + max 1 (n / 2), rfA fun _ => none))))) (alen_eq (h := (_, _, _)) h2e), mn_nI (by omega) (by omega), Nat.min_eq_left (by omega)]
            rw [bnd_eq (acpy_eq (h := (_, _, _)) h2e up_self (by omega) (by omega) (okE_t (fun i hi => ?_)))]
            · rfl
            · obtain ⟨a, o9, z1, z2, z3⟩ := hf c0 i hi
              refine ⟨a, o9, z1, ?_, z3⟩
              show va_up _ _ _ a = _
              rw [va_up_ne _ _ (fun z => by rw [z, hnew] at z2; cases z2), hset_ne (fun z => by rw [z, hb] at z2; cases z2; rcases z3 with z3 | z3 <;> cases z3)]
              exact z2
          rw [bnd_eq cp]
          rw [bnd_eq (pV_eq (fs := [.int (q + 1), .ref e, .int (nI n)]) (by rw [hset_ne hbn]; show va_up _ _ _ b = _; rw [va_up_ne _ _ hbn]; exact h1b) (by simp))]
          rfl
        rw [bnd_eq g]
        unfold Jx4a65c_add_72be8_b11
        rw [bnd_eq (stR_eq (m := n + max 1 (n / 2)) (f := va_cpy f (fun _ => none) 0 0 n) (o := o) (by rw [hset_ne (Ne.symm hbn)]; exact hset_self) (by rw [hset_ne hvb, hset_ne hvn]; show va_up _ _ _ v = _; rw [va_up_ne _ _ hvn, hset_ne hvb]; exact hv) ho (by omega) (by omega))]
        rw [bnd_eq (pV_eq (fs := [.int (q + 1), .ref h.1, .int (nI n)]) (by rw [hset_ne hbn]; exact hset_self) (by simp)), nI_1]
        rfl
      rw [bnd_eq key, hrt]
      refine ⟨_, h.1, n + max 1 (n / 2), va_up (va_cpy f (fun _ => none) 0 0 n) n (some v), rfl, ⟨by omega, by omega, by omega⟩, fun _ i hi => ?_, va_up_self _ _ _, Or.inr ⟨rfl, rfl, rfl, rfl⟩, ?_, hset_self, fun x h1 h2 => ?_⟩
      · rw [va_up_ne _ _ (by omega), pk_cpy_in (by omega) (by omega)]
        simp
      · rw [hset_ne (Ne.symm hbn)]; exact hset_self
      · rw [hset_ne h2, hset_ne h1, hset_ne h2, hset_ne h1]
        show va_up _ _ _ x = _
        rw [va_up_ne _ _ h1, hset_ne h2]
    · have key : vc b 0 (f_Jx4a65c_add_72be8 t0 mi b v e (nI n)) (hset h b (.inr (0, [.int (q + 1), .ref e, .int (nI n)]))) = some (.inl (), (hset (hset (hset h b (.inr (0, [.int (q + 1), .ref e, .int (nI n)]))) e (.inl (3, c, rfA (va_up f n (some v))))) b (.inr (0, [.int (q + 1), .ref e, .int (nI (n + 1))])))) := by
        rw [vc_eq h1b]
        unfold f_Jx4a65c_add_72be8
        rw [bnd_eq hal, if_neg (by rw [nI_eq (by omega) (by omega)]; exact hcn)]
        unfold Jx4a65c_add_72be8_b11
        rw [bnd_eq (stR_eq h1e (by rw [hset_ne hvb]; exact hv) ho (by omega) (by omega))]
        rw [bnd_eq (pV_eq (fs := [.int (q + 1), .ref e, .int (nI n)]) (by rw [hset_ne (Ne.symm heb)]; exact hset_self) (by simp)), nI_1]
        rfl
      rw [bnd_eq key, hrt]
      refine ⟨_, e, c, va_up f n (some v), rfl, ⟨c0, by omega, by omega⟩, fun _ i hi => va_up_ne _ _ (by omega), va_up_self _ _ _, Or.inl ⟨rfl, rfl, c0, rfl, rfl⟩, ?_, hset_self, fun x h1 h2 => ?_⟩
      · rw [hset_ne heb]; exact hset_self
      · rw [hset_ne h2, hset_ne h1, hset_ne h2]
