/-! operations that write, over the store -/
section UPD
variable {y : LY} {w : PS} {h : AH}
/-- one cell changes, none of the others -/
theorem Rep.upd (hr : Rep y w h) {a0 : Nat} {e0 e1 : AE} (F' A' : F3) {q c0 i0 : Nat} (hq : q < 2) (ha0 : a0 = if q = 0 then adO y c0 i0 else adA y c0 i0) (hrl : yR y a0 = (q, c0, i0)) (h0 : h.2.2 a0 = some e0) (hv : ∀ c i, val F' c i = val w.2.2.1 c i) (hvA : ∀ k i, valA F' k i = valA w.2.2.1 k i)
    (hO : ∀ c i, val w.2.2.1 c i = true → ¬ (q = 0 ∧ c = c0 ∧ i = i0) → fds y F' c i = fds y w.2.2.1 c i) (hO0 : q = 0 → e1 = .inr (c0, fds y F' c0 i0))
    (hA : ∀ k i, valA w.2.2.1 k i = true → ¬ (q = 1 ∧ k = c0 ∧ i = i0) → A' k i = w.2.2.2.1 k i) (hA0 : q = 1 → e1 = .inl (kd c0 i0, ln c0 i0, .inl (A' c0 i0))) (hl : ∀ j, F' 0 j 2 = w.2.2.1 0 j 2) : Rep y (w.1, w.2.1, F', A', w.2.2.2.2) (hset h a0 e1) := by
  obtain ⟨⟨a1, a2, a3, a4, a5⟩, b, c, d, e, f, g1, g2⟩ := hr
  have hlt : a0 < h.1 := by
    rcases Nat.lt_or_ge a0 h.1 with q | q
    · exact q
    · rw [a3 a0 q] at h0; cases h0
  have hne : ∀ (x u1 u2 u3 : Nat), yR y x = (u1, u2, u3) → (u1, u2, u3) ≠ (q, c0, i0) → va_up h.2.2 a0 (some e1) x = h.2.2 x := by
    intro x u1 u2 u3 hx hn
    refine va_up_ne _ _ (fun q9 => hn ?_)
    rw [← hx, q9, hrl]
  have h2 : ∀ u2 u3 : Nat, ((2 : Nat), u2, u3) ≠ (q, c0, i0) := fun u2 u3 z => by
    injection z with z1
    omega
  have hL : ∀ j, lstOK y w.2.2.1 h j → lstOK y F' (hset h a0 e1) j := by
    intro j hj
    unfold lstOK at hj ⊢
    rw [hl j]
    refine ⟨hj.1, hj.2.1, ?_⟩
    rcases hj.2.2 with q1 | ⟨q1, ff, q2, q3⟩
    · exact Or.inl q1
    · refine Or.inr ⟨q1, ff, ?_, q3⟩
      show va_up h.2.2 a0 (some e1) (yE y j) = _
      rw [hne _ _ _ _ q1 (h2 _ _)]
      exact q2
  refine ⟨⟨a1, a2, fun a ha => ?_, a4, fun a e9 ha => ?_⟩, fun c9 i9 hv9 => ?_, fun k9 i9 hv9 => ?_, ⟨?_, d.2⟩, ⟨?_, e.2⟩, ⟨f.1, ?_⟩, hL 0 g1, hL 1 g2⟩
  · show va_up h.2.2 a0 (some e1) a = none
    rw [va_up_ne _ _ (show a ≠ a0 from fun q9 => by have : h.1 ≤ a := ha; omega)]
    exact a3 a ha
  · have ha : va_up h.2.2 a0 (some e1) a = some e9 := ha
    by_cases q9 : a = a0
    · subst q9; exact a5 _ _ h0
    · rw [va_up_ne _ _ q9] at ha; exact a5 _ _ ha
  · have hv9 : val F' c9 i9 = true := hv9
    rw [hv c9 i9] at hv9
    obtain ⟨b1, b2⟩ := b c9 i9 hv9
    refine ⟨?_, b2⟩
    show va_up h.2.2 a0 (some e1) (adO y c9 i9) = some (.inr (c9, fds y F' c9 i9))
    by_cases z : q = 0 ∧ c9 = c0 ∧ i9 = i0
    · obtain ⟨z1, rfl, rfl⟩ := z
      rw [show adO y c9 i9 = a0 by rw [ha0, if_pos z1], va_up_self, hO0 z1]
    · rw [hne _ _ _ _ b2 (fun q9 => z (by injection q9 with z1 z2; injection z2 with z2 z3; exact ⟨z1.symm, z2, z3⟩)), b1, hO c9 i9 hv9 z]
  · have hv9 : valA F' k9 i9 = true := hv9
    rw [hvA k9 i9] at hv9
    obtain ⟨b1, b2⟩ := c k9 i9 hv9
    refine ⟨?_, b2⟩
    show va_up h.2.2 a0 (some e1) (adA y k9 i9) = some (.inl (kd k9 i9, ln k9 i9, .inl (A' k9 i9)))
    by_cases z : q = 1 ∧ k9 = c0 ∧ i9 = i0
    · obtain ⟨z1, rfl, rfl⟩ := z
      rw [show adA y k9 i9 = a0 by rw [ha0, if_neg (by omega)], va_up_self, hA0 z1]
    · rw [hne _ _ _ _ b2 (fun q9 => z (by injection q9 with z1 z2; injection z2 with z2 z3; exact ⟨z1.symm, z2, z3⟩)), b1, hA k9 i9 hv9 z]
  · show va_up h.2.2 a0 (some e1) (yB y + 4) = _
    rw [hne _ _ _ _ d.2 (h2 _ _)]
    exact d.1
  · show va_up h.2.2 a0 (some e1) (yB y + 9) = _
    rw [hne _ _ _ _ e.2 (h2 _ _)]
    exact e.1
  · obtain ⟨f1, ff, f2, f3⟩ := f
    refine ⟨ff, ?_, f3⟩
    show va_up h.2.2 a0 (some e1) (yB y + 45) = _
    rw [hne _ _ _ _ f1 (h2 _ _)]
    exact f2
theorem u3_ne {F : F3} {c i k : Nat} {v : Int32} {a b d : Nat} (h : ¬ (a = c ∧ b = i)) : u3 F c i k v a b d = F a b d := by
  unfold u3
  rw [if_neg (fun z => h ⟨z.1, z.2.1⟩)]
theorem val_u3 {F : F3} {c i k : Nat} {v : Int32} (hc : c ≠ 0 ∧ c ≠ 1) (a b : Nat) : val (u3 F c i k v) a b = val F a b := by
  have e0 : ∀ j d, u3 F c i k v 0 j d = F 0 j d := fun j d => u3_ne (fun z => hc.1 z.1.symm)
  have e1 : ∀ j d, u3 F c i k v 1 j d = F 1 j d := fun j d => u3_ne (fun z => hc.2 z.1.symm)
  unfold val nT nB
  simp only [e0, e1]
theorem valA_u3 {F : F3} {c i k : Nat} {v : Int32} (hc : c ≠ 0 ∧ c ≠ 1) (a b : Nat) : valA (u3 F c i k v) a b = valA F a b := by
  unfold valA
  simp only [val_u3 hc]
theorem fds_u3 {F : F3} {c i k : Nat} {v : Int32} {a b : Nat} (h : ¬ (a = c ∧ b = i)) : fds y (u3 F c i k v) a b = fds y F a b := by
  have e : ∀ d, u3 F c i k v a b d = F a b d := fun d => u3_ne h
  unfold fds
  split <;> simp only [e]
end UPD
section LFT2
variable {α β α' β' : Type} {y : LY} {r : α → β → Prop} {r' : α' → β' → Prop}
theorem Lft_pI {c i k : Nat} {v : Int32} (hc : c ≠ 0 ∧ c ≠ 1) (hf : ∀ F : F3, fds y (u3 F c i k v) c i = (fds y F c i).set k (.int v) ∧ k < (fds y F c i).length) : Lft y (fun (_ : Unit) (_ : Unit) => True) (pV (adO y c i) c k (.int v)) (ppI c i k v) := by
  intro w h hr z w' e
  unfold ppI at e
  split at e
  · rename_i hv
    cases e
    obtain ⟨b1, b2⟩ := hr.2.1 c i hv
    refine ⟨.inl (), hset h (adO y c i) (.inr (c, (fds y w.2.2.1 c i).set k (.int v))), ?_, trivial, ?_⟩
    · simp [pV, b1, (hf w.2.2.1).2]
    · refine hr.upd (q := 0) (c0 := c) (i0 := i) _ w.2.2.2.1 (by omega) (by rw [if_pos rfl]) b2 b1 (val_u3 hc) (valA_u3 hc) (fun c9 i9 _ hn => fds_u3 (fun z => hn ⟨rfl, z.1, z.2⟩)) (fun _ => by rw [(hf w.2.2.1).1]) (fun _ _ _ _ => rfl) (fun z => by cases z) (fun j => u3_ne (fun z => hc.1 z.1.symm))
  · cases e
theorem Lft_pZ {c i k : Nat} {v : Int32} (hc : c ≠ 0 ∧ c ≠ 1) (hf : ∀ F : F3, fds y (u3 F c i k v) c i = (fds y F c i).set k (.int v) ∧ k < (fds y F c i).length) : Lft y (fun (_ : Unit) (_ : Unit) => True) (pZ (adO y c i) c k v) (ppZ c i k v) := by
  intro w h hr z w' e
  unfold ppZ at e
  split at e
  · rename_i hv
    obtain ⟨x, h1, e1, e2, e3⟩ := Lft_pI hc hf w h hr z w' e
    exact ⟨x, h1, by simp only [pZ, if_pos hv]; exact e1, e2, e3⟩
  · cases e
theorem u3_row {A : F3} {k i j : Nat} {v : Int32} : u3 A k i j v k i = upd (A k i) j v := by
  funext q
  simp only [u3, upd]
  by_cases h : q = j <;> simp [h]
theorem Lft_st {k i : Nat} {j v : Int32} {d : Nat} (hk : kd k i = d) : Lft y (fun (_ : Unit) (_ : Unit) => True) (stK d (adA y k i) j v) (pst k i j v) := by
  intro w h hr z w' e
  unfold pst at e
  split at e
  · rename_i hv
    cases e
    obtain ⟨b1, b2⟩ := hr.2.2.1 k i hv.1
    refine ⟨.inl (), hset h (adA y k i) (.inl (kd k i, ln k i, .inl (upd (w.2.2.2.1 k i) j.toNatClampNeg v))), ?_, trivial, ?_⟩
    · subst hk
      simp [stK, b1, hv.2]
    · exact hr.upd (q := 1) (c0 := k) (i0 := i) w.2.2.1 _ (by omega) (by rw [if_neg (by omega)]) b2 b1 (fun _ _ => rfl) (fun _ _ => rfl) (fun _ _ _ _ => rfl) (fun z => by cases z) (fun k9 i9 _ hn => funext fun q => u3_ne (fun z => hn ⟨rfl, z.1, z.2⟩)) (fun _ => by rw [u3_row]) (fun _ => rfl)
  · cases e
theorem Lft_stZ {k i : Nat} {j v : Int32} (hk : kd k i = 2) : Lft y (fun (_ : Unit) (_ : Unit) => True) (stZ (adA y k i) j v) (pstZ k i j v) := by
  intro w h hr z w' e
  unfold pstZ at e
  split at e
  · rename_i hv
    obtain ⟨x, h1, e1, e2, e3⟩ := Lft_st hk w h hr z w' e
    exact ⟨x, h1, by simp only [stZ, if_pos hv]; exact e1, e2, e3⟩
  · cases e
theorem Lft_siz {j t0 mi : Nat} (hj : j < 2) : Lft y Eq (f_Jx4a65c_size_8abf5 t0 mi (adO y 0 j)) (psiz j) := by
  refine Lft_rd (fun w h0 hr z w' e => ?_)
  cases e
  refine ⟨rfl, _, rfl, _, ?_, rfl⟩
  have hv : val w.2.2.1 0 j = true := by simp [val, hj]
  simp [f_Jx4a65c_size_8abf5, bnd, gI, fld, (hr.2.1 0 j hv).1, fds, rt]
theorem oob_lt {i x : Int32} (h : oobB i x.toNatClampNeg = false) : ¬ i < 0 ∧ i < x := by
  simp only [oobB, Bool.or_eq_false_iff, decide_eq_false_iff_not] at h
  refine ⟨h.1, ?_⟩
  have h1 := h.1
  have h2 := h.2
  rw [Int32.lt_iff_toInt_lt] at h1 ⊢
  simp only [Int32.toNatClampNeg] at h2
  have e0 : (0 : Int32).toInt = 0 := rfl
  omega
theorem Lft_get {j t0 mi : Nat} {i : Int32} (hj : j = 0 ∨ j = 1) : Lft y (fun x (_ : Unit) => x = adO y (lstC j) i.toNatClampNeg) (f_Jx4a65c_get_915e3 t0 mi (adO y 0 j) i) (pget j i) := by
  refine Lft_rd (fun w h0 hr z w' e => ?_)
  unfold pget at e
  split at e
  case isFalse => cases e
  rename_i hv
  cases e
  refine ⟨rfl, _, rfl, _, ?_, rfl⟩
  have hval : val w.2.2.1 0 j = true := by rcases hj with rfl | rfl <;> rfl
  have hlst : lstOK y w.2.2.1 h0 j := by
    rcases hj with rfl | rfl
    · exact hr.2.2.2.2.2.2.1
    · exact hr.2.2.2.2.2.2.2
  obtain ⟨l1, l2, l3⟩ := hlst
  have hlt : i.toNatClampNeg < (w.2.2.1 0 j 2).toNatClampNeg := Nat.not_le.mp fun q => oobB_in hv (Or.inr q)
  rcases l3 with l3 | ⟨l4, ff, l5, l6⟩
  · omega
  · have hi := oob_lt hv
    have hc : yC y j ≠ 0 := by omega
    have hb : oobB i (yC y j) = false := by
      simp only [oobB, Bool.or_eq_false_iff, decide_eq_false_iff_not] at hv ⊢
      exact ⟨hv.1, by omega⟩
    have hO := (hr.2.1 0 j hval).1
    simp only [f_Jx4a65c_get_915e3, f_J15_checkIndex_7cf53, f_J3_checkIndex_8e157, f_Jx4a65c_elementData_915e3, bnd, gI, fld, hO, fds, if_pos, if_neg hi.1, if_pos hi.2, vc, gA', rt, if_neg hc, ldR, l5, hb, l6 _ hlt, List.getElem?_cons_zero, List.getElem?_cons_succ, and_self]
theorem fill_loop {t0 mi a : Nat} {v : Int32} {m : Nat} (hm : m < 2 ^ 31) : ∀ (n j : Nat) (h : AH) (f : Nat → Int32), j ≤ m → m - j < n → h.2.2 a = some (.inl (0, m, .inl f)) → ∃ h', J7_fill_53178_L5 t0 mi a v (nI m) (rt ()) n (nI j) h = some (.inl (), h') ∧ h' = (if j < m then hset h a (.inl (0, m, .inl (fun q => if j ≤ q ∧ q < m then v else f q))) else h) := by
  intro n
  induction n with
  | zero => intro j h f h1 h2; omega
  | succ n ih =>
    intro j h f hj hn ha
    rw [J7_fill_53178_L5]
    by_cases hc : m ≤ j
    · rw [if_pos (nI_le hc (by omega))]
      exact ⟨h, rfl, by rw [if_neg (by omega)]⟩
    · rw [if_neg (nI_ge (by omega) hm)]
      have hs : stK 0 a (nI j) v h = some (.inl (), hset h a (.inl (0, m, .inl (upd f j v)))) := by
        have : oobB (nI j) m = false := by
          simp only [oobB, Bool.or_eq_false_iff, decide_eq_false_iff_not]
          exact ⟨nI_pos (by omega), by rw [nI_clamp (by omega)]; omega⟩
        simp [stK, ha, this, nI_clamp (show j < 2 ^ 31 by omega)]
      simp only [bnd, hs]
      obtain ⟨h', e1, e2⟩ := ih (j + 1) (hset h a (.inl (0, m, .inl (upd f j v)))) (upd f j v) (by omega) (by omega) (by simp [hset, va_up])
      rw [nI_1]
      refine ⟨h', e1, ?_⟩
      rw [e2, if_pos (show j < m by omega)]
      by_cases hz : j + 1 < m
      · rw [if_pos hz]
        have : ∀ q, (if j + 1 ≤ q ∧ q < m then v else upd f j v q) = (if j ≤ q ∧ q < m then v else f q) := by
          intro q
          simp only [upd]
          by_cases q1 : q = j
          · subst q1; simp; omega
          · simp only [if_neg q1]
            by_cases q2 : j ≤ q ∧ q < m
            · rw [if_pos q2, if_pos (by omega)]
            · rw [if_neg q2, if_neg (by omega)]
        simp only [this, hset, Prod.mk.injEq, true_and]
        funext q
        simp only [va_up]
        by_cases q1 : q = a <;> simp [q1]
      · rw [if_neg hz]
        have : upd f j v = (fun q => if j ≤ q ∧ q < m then v else f q) := by
          funext q
          simp only [upd]
          by_cases q1 : q = j
          · subst q1; simp; omega
          · rw [if_neg q1, if_neg (by omega)]
        rw [this]
/-- Arrays.fill -/
def pfill (k i : Nat) (v : Int32) : PM Unit := fun w => if valA w.2.2.1 k i = true then some (.inl (), (w.1, w.2.1, w.2.2.1, fun a b c => if a = k ∧ b = i ∧ c < ln k i then v else w.2.2.2.1 a b c, w.2.2.2.2)) else none
theorem ln_pos (k i : Nat) : 0 < ln k i ∧ ln k i ≤ 640 := by
  unfold ln
  split <;> first | (constructor <;> omega) | skip
  repeat' split
  all_goals (constructor <;> omega)
theorem Lft_fill {k i t0 mi : Nat} {v : Int32} (hk : kd k i = 0) : Lft y (fun (_ : Unit) (_ : Unit) => True) (f_J7_fill_53178 t0 mi (adA y k i) v) (pfill k i v) := by
  intro w h hr z w' e
  unfold pfill at e
  split at e
  · rename_i hv
    cases e
    obtain ⟨b1, b2⟩ := hr.2.2.1 k i hv
    have hl := ln_pos k i
    rw [hk] at b1
    obtain ⟨h', e1, e2⟩ := fill_loop (t0 := t0) (mi := mi) (v := v) (m := ln k i) (by omega) FU 0 h (w.2.2.2.1 k i) (by omega) (by unfold FU; omega) b1
    rw [if_pos hl.1] at e2
    refine ⟨.inl (), h', ?_, trivial, ?_⟩
    · have ea : alen (adA y k i) h = some (.inl (nI (ln k i)), h) := by simp [alen, b1, nI]
      simp only [f_J7_fill_53178, bnd, ea]
      exact e1
    · rw [e2]
      refine hr.upd (q := 1) (c0 := k) (i0 := i) w.2.2.1 _ (by omega) (by rw [if_neg (by omega)]) b2 b1 (fun _ _ => rfl) (fun _ _ => rfl) (fun _ _ _ _ => rfl) (fun z => by cases z) (fun k9 i9 _ hn => funext fun q => ?_) (fun _ => ?_) (fun _ => rfl)
      · rw [if_neg (fun z => hn ⟨rfl, z.1, z.2.1⟩)]
      · rw [hk]
        simp
  · cases e
theorem Lft_ldO {i : Int32} : Lft y Eq (ldL (yB y + 45) i) (pldO i) := by
  refine Lft_rd (fun w h0 hr z w' e => ?_)
  unfold pldO at e
  split at e
  · rename_i hv
    cases e
    subst hv
    obtain ⟨-, ff, f2, f3⟩ := hr.2.2.2.2.2.1
    refine ⟨rfl, _, rfl, _, ?_, f3⟩
    simp [ldL, f2, oobB]
  · cases e
theorem Lft_stO {i : Int32} {v : Int64} : Lft y (fun (_ : Unit) (_ : Unit) => True) (stL (yB y + 45) i v) (pstO i v) := by
  intro w h hr z w' e
  unfold pstO at e
  split at e
  · rename_i hv
    cases e
    subst hv
    obtain ⟨⟨a1, a2, a3, a4, a5⟩, b, c, d, e, ⟨f1, ff, f2, f3⟩, g1, g2⟩ := hr
    have hne : ∀ (x u1 u2 u3 : Nat), yR y x = (u1, u2, u3) → (u1, u2, u3) ≠ (2, 4, 0) → ∀ e9, va_up h.2.2 (yB y + 45) (some e9) x = h.2.2 x := by
      intro x u1 u2 u3 hx hn e9
      refine va_up_ne _ _ (fun q9 => hn ?_)
      rw [← hx, q9, f1]
    have hlt : yB y + 45 < h.1 := by
      rcases Nat.lt_or_ge (yB y + 45) h.1 with q | q
      · exact q
      · rw [a3 _ q] at f2; cases f2
    refine ⟨.inl (), hset h (yB y + 45) (.inl (1, 1, .inr (.inl (vp_updL ff 0 v)))), ?_, trivial, ?_⟩
    · simp [stL, f2, oobB]
    · have hL : ∀ j, j < 2 → lstOK y w.2.2.1 h j → lstOK y w.2.2.1 (hset h (yB y + 45) (.inl (1, 1, .inr (.inl (vp_updL ff 0 v))))) j := by
        intro j hj2 hj
        unfold lstOK at hj ⊢
        refine ⟨hj.1, hj.2.1, ?_⟩
        rcases hj.2.2 with q1 | ⟨q1, fx, q2, q3⟩
        · exact Or.inl q1
        · refine Or.inr ⟨q1, fx, ?_, q3⟩
          show va_up h.2.2 (yB y + 45) _ (yE y j) = _
          rw [hne _ _ _ _ q1 (fun z => by injection z with z1 z2; injection z2 with z2; omega)]
          exact q2
      refine ⟨⟨a1, a2, fun a ha => ?_, a4, fun a e9 ha => ?_⟩, fun c9 i9 hv9 => ?_, fun k9 i9 hv9 => ?_, ⟨?_, d.2⟩, ⟨?_, e.2⟩, ⟨f1, vp_updL ff 0 v, ?_, ?_⟩, hL 0 (by omega) g1, hL 1 (by omega) g2⟩
      · show va_up h.2.2 (yB y + 45) _ a = none
        rw [va_up_ne _ _ (show a ≠ yB y + 45 from fun q9 => by have : h.1 ≤ a := ha; omega)]
        exact a3 a ha
      · have ha : va_up h.2.2 (yB y + 45) _ a = some e9 := ha
        by_cases q9 : a = yB y + 45
        · omega
        · rw [va_up_ne _ _ q9] at ha; exact a5 _ _ ha
      · obtain ⟨b1, b2⟩ := b c9 i9 hv9
        refine ⟨?_, b2⟩
        show va_up h.2.2 (yB y + 45) _ (adO y c9 i9) = _
        rw [hne _ _ _ _ b2 (fun z => by injection z with z1; omega)]
        exact b1
      · obtain ⟨b1, b2⟩ := c k9 i9 hv9
        refine ⟨?_, b2⟩
        show va_up h.2.2 (yB y + 45) _ (adA y k9 i9) = _
        rw [hne _ _ _ _ b2 (fun z => by injection z with z1; omega)]
        exact b1
      · show va_up h.2.2 (yB y + 45) _ (yB y + 4) = _
        rw [hne _ _ _ _ d.2 (fun z => by injection z with z1 z2; injection z2 with z2; omega)]
        exact d.1
      · show va_up h.2.2 (yB y + 45) _ (yB y + 9) = _
        rw [hne _ _ _ _ e.2 (fun z => by injection z with z1 z2; injection z2 with z2; omega)]
        exact e.1
      · show va_up h.2.2 (yB y + 45) _ (yB y + 45) = _
        rw [va_up_self]
      · simp [vp_updL]
  · cases e
theorem Lft_ctc {op : Mo α'} {f : α' → Mo α} {hd : String → Mo α} {p : PM β'} {q : β' → PM β} {hp : String → PM β} (h1 : Lft y r' op p) (h2 : ∀ a b, r' a b → Lft y r (f a) (q b)) (h3 : ∀ E, Lft y r (hd E) (hp E)) : Lft y r (ctc op f hd) (pctc p q hp) := by
  intro w h hr z w' e
  unfold pctc at e
  cases hpw : p w with
  | none => rw [hpw] at e; cases e
  | some y1 =>
    rw [hpw] at e
    obtain ⟨z1, w1⟩ := y1
    obtain ⟨x1, h4, e1, e2, e3⟩ := h1 w h hr z1 w1 hpw
    cases z1 with
    | inl b =>
      cases x1 with
      | inl a =>
        obtain ⟨x2, h5, g1, g2, g3⟩ := h2 a b e2 w1 h4 e3 z w' e
        exact ⟨x2, h5, by unfold ctc; rw [e1]; exact g1, g2, g3⟩
      | inr E => cases e2
    | inr E' =>
      cases x1 with
      | inl a => cases e2
      | inr E =>
        have e2 : E = E' := e2
        subst e2
        obtain ⟨x2, h5, g1, g2, g3⟩ := h3 E w1 h4 e3 z w' e
        exact ⟨x2, h5, by unfold ctc; rw [e1]; exact g1, g2, g3⟩
end LFT2
theorem Lft_get0 {y : LY} {t0 mi : Nat} {i : Int32} : Lft y (fun x (_ : Unit) => x = adO y 4 i.toNatClampNeg) (f_Jx4a65c_get_915e3 t0 mi (adO y 0 0) i) (pget 0 i) := Lft_get (j := 0) (Or.inl rfl)
theorem Lft_get1 {y : LY} {t0 mi : Nat} {i : Int32} : Lft y (fun x (_ : Unit) => x = adO y 1 i.toNatClampNeg) (f_Jx4a65c_get_915e3 t0 mi (adO y 0 1) i) (pget 1 i) := Lft_get (j := 1) (Or.inr rfl)
theorem Lft_ifn {α β γ δ : Type} {y : LY} {r : α → β → Prop} {f : γ → δ} {z : Option γ} {F1 F2 : Mo α} {P1 P2 : PM β} [Decidable (z.map f = none)] [Decidable (z = none)] (h1 : z = none → Lft y r F1 P1) (h2 : ¬ z = none → Lft y r F2 P2) : Lft y r (if z.map f = none then F1 else F2) (if z = none then P1 else P2) := by
  cases z with
  | none =>
    rw [if_pos (show Option.map f none = none from rfl), if_pos rfl]; exact h1 rfl
  | some a =>
    rw [if_neg (by simp), if_neg (by simp)]; exact h2 (by simp)
