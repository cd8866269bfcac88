/-! what the heap holds of the store goes on to hold when objects are made -/
def mkC (h : AH) (a : Nat) (o : Nat × List Value) (arr : Nat × vp_A) : AH := (h.1 + 1, h.2.1 + arr.2.1, fun x => if x = a then some (.inr o) else if x = h.1 then some (.inl arr) else h.2.2 x)
section MK
variable {β : Type} {h : AH}
theorem bnd_nk {k n ci j a : Nat} {c : (Nat → Int32) ⊕ (Nat → Int64) ⊕ (Nat → UInt32) ⊕ (Nat → UInt64) ⊕ (Nat → Option Nat)} {K : Mo β} {fs : List Value} (hn : n ≤ 1000000) (e : h.2.2 a = some (.inr (ci, fs))) (hj : j < fs.length) (ha : a ≠ h.1) : bnd (newK k c (nI n)) (fun v => bnd (pV a ci j (.ref v)) fun _ => K) h = K (mkC h a (ci, fs.set j (.ref h.1)) (k, n, c)) := by
  rw [bnd_eq (newK_eq hn)]
  have e2 : (va_up h.2.2 h.1 (some (.inl (k, n, c)))) a = some (.inr (ci, fs)) := by rw [va_up_ne _ _ ha]; exact e
  rw [bnd_eq (pV_eq (h := (_, _, _)) e2 hj)]
  congr 1
theorem mkC_a {a : Nat} {o : Nat × List Value} {arr : Nat × vp_A} : (mkC h a o arr).2.2 a = some (.inr o) := if_pos rfl
theorem mkC_n {a : Nat} {o : Nat × List Value} {arr : Nat × vp_A} (ha : a ≠ h.1) : (mkC h a o arr).2.2 h.1 = some (.inl arr) := by
  show (if h.1 = a then _ else _) = _
  rw [if_neg (Ne.symm ha), if_pos rfl]
theorem mkC_o {a x : Nat} {o : Nat × List Value} {arr : Nat × vp_A} (h1 : x ≠ a) (h2 : x ≠ h.1) : (mkC h a o arr).2.2 x = h.2.2 x := by
  show (if x = a then _ else _) = _
  rw [if_neg h1, if_neg h2]
theorem pZ0_eq {a ci k : Nat} {fs : List Value} (e : h.2.2 a = some (.inr (ci, fs))) (hk : k < fs.length) : pZ a ci k (0 : Int32) h = some (.inl (), hset h a (.inr (ci, fs.set k (.int 0)))) := (if_pos (Or.inl rfl)).trans (pV_eq e hk)
/-- a new train -/
theorem x3init {t0 mi a : Nat} {x : Int32} (e : h.2.2 a = some (.inr (4, [.int 0, .null, .null, .null, .int 0, .int 0]))) (ha : a < h.1) : ∃ h' : AH, f_X3_init t0 mi a x h = some (.inl (), h') ∧ h'.1 = h.1 + 3 ∧ h'.2.1 = h.2.1 + 30 ∧ h'.2.2 a = some (.inr (4, [.int x, .ref h.1, .ref (h.1 + 1), .ref (h.1 + 2), .int 0, .int 0])) ∧ (∀ z, h.1 ≤ z → z < h.1 + 3 → h'.2.2 z = some (.inl (0, 10, .inl fun _ => 0))) ∧ ∀ z, z ≠ a → z < h.1 ∨ h.1 + 3 ≤ z → h'.2.2 z = h.2.2 z := by
  unfold f_X3_init
  rw [bnd_eq (pV_eq e (by simp))]
  rw [nL_10]
  rw [bnd_nk (by decide) hset_self (by simp)]
  rotate_left
  · show a ≠ h.1; omega
  rw [bnd_nk (by decide) mkC_a (by simp)]
  rotate_left
  · show a ≠ h.1 + 1; omega
  rw [bnd_nk (by decide) mkC_a (by simp)]
  rotate_left
  · show a ≠ h.1 + 1 + 1; omega
  rw [bnd_eq (pV_eq mkC_a (by simp)), bnd_eq (pZ0_eq hset_self (by simp))]
  refine ⟨_, rfl, rfl, rfl, hset_self, fun z h1 h2 => ?_, fun z h1 h2 => ?_⟩
  · rw [hset_ne (by omega), hset_ne (by omega)]
    by_cases q2 : z = h.1 + 1 + 1
    · subst q2
      exact mkC_n (show a ≠ h.1 + 1 + 1 by omega)
    · rw [mkC_o (by omega) (show z ≠ h.1 + 1 + 1 from q2)]
      by_cases q1 : z = h.1 + 1
      · subst q1
        exact mkC_n (show a ≠ h.1 + 1 by omega)
      · rw [mkC_o (by omega) (show z ≠ h.1 + 1 from q1)]
        have : z = h.1 := by omega
        subst this
        exact mkC_n (show a ≠ h.1 by omega)
  · rw [hset_ne h1, hset_ne h1, mkC_o h1 (show z ≠ h.1 + 1 + 1 by omega), mkC_o h1 (show z ≠ h.1 + 1 by omega), mkC_o h1]
    rotate_left
    · show z ≠ h.1; omega
    rw [hset_ne h1]
/-- a new trip -/
theorem x4init {t0 mi a : Nat} {x1 x2 x3 x4 x5 x6 : Int32} (e : h.2.2 a = some (.inr (5, [.int 0, .int 0, .int 0, .int 0, .int 0, .int 0, .null, .int 0, .int 0, .int 0, .int 0, .int 0, .int 0]))) (ha : a < h.1) : ∃ h' : AH, f_X4_init t0 mi a x1 x2 x3 x4 x5 x6 h = some (.inl (), h') ∧ h'.1 = h.1 + 1 ∧ h'.2.1 = h.2.1 + 9 ∧ h'.2.2 a = some (.inr (5, [.int x1, .int x2, .int x3, .int x4, .int x5, .int x6, .ref h.1, .int 0, .int 0, .int (-1), .int (-1), .int (-1), .int 0])) ∧ h'.2.2 h.1 = some (.inl (0, 9, .inl fun _ => 0)) ∧ ∀ z, z ≠ a → z ≠ h.1 → h'.2.2 z = h.2.2 z := by
  unfold f_X4_init
  rw [bnd_eq (pV_eq e (by simp)), bnd_eq (pV_eq hset_self (by simp)), bnd_eq (pV_eq hset_self (by simp)), bnd_eq (pV_eq hset_self (by simp)), bnd_eq (pV_eq hset_self (by simp)), bnd_eq (pV_eq hset_self (by simp))]
  rw [show (9 : Int32) = nI 9 from rfl]
  rw [bnd_nk (by decide) hset_self (by simp)]
  rotate_left
  · show a ≠ h.1; omega
  rw [bnd_eq (pV_eq mkC_a (by simp)), bnd_eq (pZ0_eq hset_self (by simp)), bnd_eq (pV_eq hset_self (by simp)), bnd_eq (pV_eq hset_self (by simp)), bnd_eq (pV_eq hset_self (by simp)), bnd_eq (pZ0_eq hset_self (by simp))]
  refine ⟨_, rfl, rfl, rfl, hset_self, ?_, fun z h1 h2 => ?_⟩
  · have q : h.1 ≠ a := by omega
    rw [hset_ne q, hset_ne q, hset_ne q, hset_ne q, hset_ne q, hset_ne q]
    exact mkC_n (show a ≠ h.1 by omega)
  · rw [hset_ne h1, hset_ne h1, hset_ne h1, hset_ne h1, hset_ne h1, hset_ne h1, mkC_o h1]
    rotate_left
    · exact h2
    rw [hset_ne h1, hset_ne h1, hset_ne h1, hset_ne h1, hset_ne h1, hset_ne h1]
end MK
section GROW
variable {y : LY} {w : PS} {h : AH}
theorem Rep.lt (hr : Rep y w h) {a : Nat} {e : AE} (ha : h.2.2 a = some e) : a < h.1 := by
  rcases Nat.lt_or_ge a h.1 with q | q
  · exact q
  · rw [hr.1.2.2.1 a q] at ha; cases ha
theorem Rep.lst (hr : Rep y w h) {j : Nat} (hj : j = 0 ∨ j = 1) : lstOK y w.2.2.1 h j := by
  rcases hj with rfl | rfl
  · exact hr.2.2.2.2.2.2.1
  · exact hr.2.2.2.2.2.2.2
theorem Rep.vL {j : Nat} (hj : j = 0 ∨ j = 1) (F : F3) : val F 0 j = true := by rcases hj with rfl | rfl <;> rfl
theorem Rep.grow (hr : Rep y w h) {y' : LY} {w' : PS} {h' : AH} (Ch : Nat × Nat × Nat → Prop)
    (h1 : h'.1 = yB y' + w'.1) (h2 : h'.2.1 = w'.2.1) (h3 : ∀ a, h'.1 ≤ a → h'.2.2 a = none) (h4 : yB y' = yB y) (h5 : yt0 y' = yt0 y) (h6 : ∀ a e, h'.2.2 a = some e → yB y ≤ a)
    (hun : ∀ a u, h.2.2 a ≠ none → yR y a = u → ¬ Ch u → h'.2.2 a = h.2.2 a ∧ yR y' a = u)
    (hO : ∀ c i, val w'.2.2.1 c i = true → (val w.2.2.1 c i = true ∧ adO y' c i = adO y c i ∧ fds y' w'.2.2.1 c i = fds y w.2.2.1 c i ∧ ¬ Ch (0, c, i)) ∨ (h'.2.2 (adO y' c i) = some (.inr (c, fds y' w'.2.2.1 c i)) ∧ yR y' (adO y' c i) = (0, c, i)))
    (hA : ∀ k i, valA w'.2.2.1 k i = true → (valA w.2.2.1 k i = true ∧ adA y' k i = adA y k i ∧ w'.2.2.2.1 k i = w.2.2.2.1 k i ∧ ¬ Ch (1, k, i)) ∨ (h'.2.2 (adA y' k i) = some (.inl (kd k i, ln k i, .inl (w'.2.2.2.1 k i))) ∧ yR y' (adA y' k i) = (1, k, i)))
    (h20 : ¬ Ch (2, 0, 0)) (h21 : ¬ Ch (2, 1, 0)) (h24 : ¬ Ch (2, 4, 0)) (ho : w'.2.2.2.2 = w.2.2.2.2)
    (hL0 : lstOK y' w'.2.2.1 h' 0) (hL1 : lstOK y' w'.2.2.1 h' 1) : Rep y' w' h' := by
  obtain ⟨⟨a1, a2, a3, a4, a5⟩, b, c, d, e, ⟨f1, ff, f2, f3⟩, g1, g2⟩ := hr
  have e4 : yB y' + 4 = yB y + 4 := by rw [h4]
  have e9 : yB y' + 9 = yB y + 9 := by rw [h4]
  have e45 : yB y' + 45 = yB y + 45 := by rw [h4]
  refine ⟨⟨h1, h2, h3, by rw [h4, h5]; exact a4, fun a q hq => by rw [h4]; exact h6 a q hq⟩, fun c9 i9 hv => ?_, fun k9 i9 hv => ?_, ?_, ?_, ?_, hL0, hL1⟩
  · rcases hO c9 i9 hv with ⟨q1, q2, q3, q4⟩ | q
    · have := b c9 i9 q1
      have u := hun _ _ (by rw [this.1]; simp) this.2 q4
      rw [q2, u.1, u.2, this.1, q3]
      exact ⟨rfl, rfl⟩
    · exact q
  · rcases hA k9 i9 hv with ⟨q1, q2, q3, q4⟩ | q
    · have := c k9 i9 q1
      have u := hun _ _ (by rw [this.1]; simp) this.2 q4
      rw [q2, u.1, u.2, this.1, q3]
      exact ⟨rfl, rfl⟩
    · exact q
  · have u := hun _ _ (by rw [d.1]; simp) d.2 h20
    rw [e4, u.1, u.2, d.1, h4]
    exact ⟨rfl, rfl⟩
  · have u := hun _ _ (by rw [e.1]; simp) e.2 h21
    rw [e9, u.1, u.2, e.1, h4]
    exact ⟨rfl, rfl⟩
  · have u := hun _ _ (by rw [f2]; simp) f1 h24
    rw [e45, u.1, u.2]
    exact ⟨rfl, ff, f2, by rw [ho]; exact f3⟩
/-- a list that stays -/
theorem lst_keep {y' : LY} {F F' : F3} {h' : AH} {j : Nat} (Ch : Nat × Nat × Nat → Prop) (hl : lstOK y F h j) (hF : F' 0 j 2 = F 0 j 2) (hC : yC y' j = yC y j) (hE : yE y' j = yE y j) (ha : ∀ i, i < (F 0 j 2).toNatClampNeg → adO y' (lstC j) i = adO y (lstC j) i)
    (hun : ∀ a u, h.2.2 a ≠ none → yR y a = u → ¬ Ch u → h'.2.2 a = h.2.2 a ∧ yR y' a = u) (hj : ¬ Ch (2, 2 + j, 0)) : lstOK y' F' h' j := by
  obtain ⟨a1, a2, a3⟩ := hl
  refine ⟨by rw [hF, hC]; exact a1, by rw [hF]; exact a2, ?_⟩
  rw [hC, hE, hF]
  rcases a3 with q | ⟨q1, f, q2, q3⟩
  · exact Or.inl q
  · have u := hun _ _ (by rw [q2]; simp) q1 hj
    refine Or.inr ⟨u.2, f, by rw [u.1]; exact q2, fun i hi => by rw [ha i hi]; exact q3 i hi⟩
theorem lstC_14 (j : Nat) : lstC j = 4 ∨ lstC j = 1 := by unfold lstC; split <;> simp
theorem Rep.el (hr : Rep y w h) {j i : Nat} (hj : j = 0 ∨ j = 1) (hi : i < (w.2.2.1 0 j 2).toNatClampNeg) : val w.2.2.1 (lstC j) i = true := by
  rcases hj with rfl | rfl
  · show decide (i < nT w.2.2.1) = true
    exact decide_eq_true hi
  · show decide (i < nB w.2.2.1) = true
    exact decide_eq_true hi
/-- a list takes one more, after new cells -/
theorem Rep.add (hr : Rep y w h) {j mi v : Nat} (hj : j = 0 ∨ j = 1) {h2 : AH} (hle : h.1 ≤ h2.1) (hfr : ∀ z, z < h.1 → h2.2.2 z = h.2.2 z) (hz : ∀ z, h2.1 ≤ z → h2.2.2 z = none) {o : Nat × List Value} (hv : h2.2.2 v = some (.inr o)) (ho : o.1 = 1 ∨ o.1 = 4) (hcap : yC y j ≤ 100) (hn60 : (w.2.2.1 0 j 2).toNatClampNeg ≤ 60) :
    ∃ (h' : AH) (e' c' : Nat) (f' : Nat → Option Nat), f_Jx4a65c_add_9ea2d (yt0 y) mi (adO y 0 j) v h2 = some (.inl 1, h') ∧ (c' ≠ 0 ∧ (w.2.2.1 0 j 2).toNatClampNeg < c' ∧ c' ≤ 100) ∧ (∀ i, i < (w.2.2.1 0 j 2).toNatClampNeg → f' i = some (adO y (lstC j) i)) ∧ f' (w.2.2.1 0 j 2).toNatClampNeg = some v ∧
      ((yB y ≤ e' ∧ e' < h.1 ∧ yR y e' = (2, 2 + j, 0) ∧ h'.1 = h2.1 ∧ h'.2.1 = h2.2.1) ∨ (e' = h2.1 ∧ h'.1 = h2.1 + 1 ∧ h'.2.1 = h2.2.1 + c')) ∧ h'.2.2 e' = some (.inl (3, c', rfA f')) ∧ h'.2.2 (adO y 0 j) = some (.inr (0, [.int (w.2.2.1 0 j 0 + 1), .ref e', .int (nI ((w.2.2.1 0 j 2).toNatClampNeg + 1))])) ∧ ∀ x, x ≠ e' → x ≠ adO y 0 j → h'.2.2 x = h2.2.2 x := by
  have hl := hr.lst hj
  obtain ⟨l1, l2, l3⟩ := hl
  have hob := (hr.2.1 0 j (Rep.vL hj _)).1
  have hblt := hr.lt hob
  have hb2 : h2.2.2 (adO y 0 j) = some (.inr (0, [.int (w.2.2.1 0 j 0), .ref (if yC y j = 0 then yt0 y else yE y j), .int (nI (w.2.2.1 0 j 2).toNatClampNeg)])) := by
    rw [hfr _ hblt, hob]
    show some ((.inr (0, [.int (w.2.2.1 0 j 0), .ref (if yC y j = 0 then yt0 y else yE y j), .int (w.2.2.1 0 j 2)])) : AE) = _
    rw [← l2]
  have ht0 : yt0 y < yB y := hr.1.2.2.2.1
  have hbb : yB y ≤ adO y 0 j := hr.1.2.2.2.2 _ _ hob
  rcases l3 with c0 | ⟨q1, f, q2, q3⟩
  · obtain ⟨h', e', c', f', r1, r2, r3, r4, r5, r6, r7, r8⟩ := add_eq (mi := mi) (f := fun _ => none) hb2 (by omega) l1 (fun z => absurd c0 z) (hz _ (Nat.le_refl _)) (by omega) (fun z => absurd c0 z) (fun z => absurd c0 z) hv ho
    refine ⟨h', e', c', f', r1, ⟨r2.1, r2.2.1, by omega⟩, fun i hi => by omega, r4, ?_, r6, r7, r8⟩
    rcases r5 with r5 | r5
    · exact absurd c0 r5.2.2.1
    · exact Or.inr ⟨r5.1, r5.2.2⟩
  · have helt := hr.lt q2
    have heb : yB y ≤ yE y j := hr.1.2.2.2.2 _ _ q2
    obtain ⟨h', e', c', f', r1, r2, r3, r4, r5, r6, r7, r8⟩ := add_eq (mi := mi) (f := f) hb2 (by omega) l1 (fun _ => by omega) (hz _ (Nat.le_refl _)) (by omega) (fun _ => by rw [hfr _ helt]; exact q2) (fun _ i hi => by
      have hv1 := (hr.2.1 _ _ (hr.el hj hi)).1
      refine ⟨_, _, q3 i hi, by rw [hfr _ (hr.lt hv1)]; exact hv1, ?_⟩
      rcases lstC_14 j with z | z
      · exact Or.inr z
      · exact Or.inl z) hv ho
    refine ⟨h', e', c', f', r1, ⟨r2.1, r2.2.1, ?_⟩, fun i hi => ?_, r4, ?_, r6, r7, r8⟩
    · rcases r5 with r5 | r5 <;> omega
    · by_cases c0 : yC y j = 0
      · omega
      · rw [r3 c0 i hi]; exact q3 i hi
    · rcases r5 with r5 | r5
      · exact Or.inl ⟨by rw [r5.1]; exact heb, by rw [r5.1]; exact helt, by rw [r5.1]; exact q1, r5.2.2.2⟩
      · exact Or.inr ⟨r5.1, r5.2.2⟩
end GROW
