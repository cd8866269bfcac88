/-! running functions over the store -/
def Rn {α : Type} (m : PM α) (w : PS) (Q : (α ⊕ String) → PS → Prop) : Prop := ∃ y w', m w = some (y, w') ∧ Q y w'
section RN
variable {α β : Type} {n s : Nat} {F A : F3} {o : Int64} {Q : (α ⊕ String) → PS → Prop}
theorem Rn_rt {a : α} {w : PS} (h : Q (.inl a) w) : Rn (prt a) w Q := ⟨_, _, rfl, h⟩
theorem Rn_rtZ {Q : (Int32 ⊕ String) → PS → Prop} {v : Int32} {w : PS} (hv : v = 0 ∨ v = 1) (h : Q (.inl v) w) : Rn (prtZ v) w Q := ⟨_, _, by simp [prtZ, hv], h⟩
theorem Rn_rtZ0 {Q : (Int32 ⊕ String) → PS → Prop} {w : PS} (h : Q (.inl 0) w) : Rn (prtZ (0 : Int32)) w Q := Rn_rtZ (Or.inl rfl) h
theorem Rn_rtZ1 {Q : (Int32 ⊕ String) → PS → Prop} {w : PS} (h : Q (.inl 1) w) : Rn (prtZ (1 : Int32)) w Q := Rn_rtZ (Or.inr rfl) h
theorem Rn_thr {E : String} (h : Q (.inr E) (n + 1, s + 6, F, A, o)) : Rn (pthr E : PM α) (n, s, F, A, o) Q := ⟨_, _, rfl, h⟩
theorem Rn_bnd {m : PM β} {f : β → PM α} {w : PS} (h : Rn m w (fun y w1 => match y with | .inl a => Rn (f a) w1 Q | .inr E => Q (.inr E) w1)) : Rn (pbnd m f) w Q := by
  obtain ⟨y, w1, e, hy⟩ := h
  cases y with
  | inl a =>
    obtain ⟨z, w2, e2, h2⟩ := hy
    exact ⟨z, w2, by simp only [pbnd, e]; exact e2, h2⟩
  | inr E => exact ⟨.inr E, w1, by simp only [pbnd, e], hy⟩
theorem Rn_if {c : Prop} [Decidable c] {P1 P2 : PM α} {w : PS} (h1 : c → Rn P1 w Q) (h2 : ¬ c → Rn P2 w Q) : Rn (if c then P1 else P2) w Q := by
  by_cases hc : c
  · rw [if_pos hc]; exact h1 hc
  · rw [if_neg hc]; exact h2 hc
theorem Rn_mono {m : PM α} {w : PS} {Q' : (α ⊕ String) → PS → Prop} (h : Rn m w Q') (hq : ∀ y w', Q' y w' → Q y w') : Rn m w Q := by
  obtain ⟨y, w', e, hy⟩ := h
  exact ⟨y, w', e, hq y w' hy⟩
theorem Rn_eq {m : PM α} {w w' : PS} {y : α ⊕ String} (e : m w = some (y, w')) (h : Q y w') : Rn m w Q := ⟨y, w', e, h⟩
theorem Rn_chk {Q : (Unit ⊕ String) → PS → Prop} {c i : Nat} (hv : val F c i = true) (h : Q (.inl ()) (n, s, F, A, o)) : Rn (pchk c i) (n, s, F, A, o) Q := ⟨_, _, if_pos hv, h⟩
theorem Rn_gI {Q : (Int32 ⊕ String) → PS → Prop} {c i k : Nat} (hv : val F c i = true) (h : Q (.inl (F c i k)) (n, s, F, A, o)) : Rn (pgI c i k) (n, s, F, A, o) Q := ⟨_, _, if_pos hv, h⟩
theorem Rn_pI {Q : (Unit ⊕ String) → PS → Prop} {c i k : Nat} {v : Int32} (hv : val F c i = true) (h : Q (.inl ()) (n, s, u3 F c i k v, A, o)) : Rn (ppI c i k v) (n, s, F, A, o) Q := ⟨_, _, if_pos hv, h⟩
theorem Rn_pZ {Q : (Unit ⊕ String) → PS → Prop} {c i k : Nat} {v : Int32} (hz : v = 0 ∨ v = 1) (hv : val F c i = true) (h : Q (.inl ()) (n, s, u3 F c i k v, A, o)) : Rn (ppZ c i k v) (n, s, F, A, o) Q := ⟨_, _, (if_pos hz).trans (if_pos hv), h⟩
theorem Rn_ld {Q : (Int32 ⊕ String) → PS → Prop} {k i j : Nat} (hv : valA F k i = true) (hj : j < ln k i) (h : Q (.inl (A k i j)) (n, s, F, A, o)) : Rn (pld k i (nI j)) (n, s, F, A, o) Q := by
  have hl := ln_pos k i
  refine ⟨_, _, if_pos ⟨hv, oob_nI hj (by omega)⟩, ?_⟩
  rw [nI_clamp (by omega)]
  exact h
theorem Rn_st {Q : (Unit ⊕ String) → PS → Prop} {k i j : Nat} {v : Int32} (hv : valA F k i = true) (hj : j < ln k i) (h : Q (.inl ()) (n, s, F, u3 A k i j v, o)) : Rn (pst k i (nI j) v) (n, s, F, A, o) Q := by
  have hl := ln_pos k i
  refine ⟨_, _, if_pos ⟨hv, oob_nI hj (by omega)⟩, ?_⟩
  rw [nI_clamp (by omega)]
  exact h
theorem Rn_stZ {Q : (Unit ⊕ String) → PS → Prop} {k i j : Nat} {v : Int32} (hz : v = 0 ∨ v = 1) (hv : valA F k i = true) (hj : j < ln k i) (h : Q (.inl ()) (n, s, F, u3 A k i j v, o)) : Rn (pstZ k i (nI j) v) (n, s, F, A, o) Q := by
  obtain ⟨y, w', e, hy⟩ := Rn_st (Q := Q) (v := v) hv hj h
  exact ⟨y, w', (if_pos hz).trans e, hy⟩
theorem Rn_len {Q : (Int32 ⊕ String) → PS → Prop} {k i : Nat} (hv : valA F k i = true) (h : Q (.inl (nI (ln k i))) (n, s, F, A, o)) : Rn (plen k i) (n, s, F, A, o) Q := ⟨_, _, if_pos hv, h⟩
theorem Rn_fill {Q : (Unit ⊕ String) → PS → Prop} {k i : Nat} {v : Int32} (hv : valA F k i = true) (h : Q (.inl ()) (n, s, F, fun a b c => if a = k ∧ b = i ∧ c < ln k i then v else A a b c, o)) : Rn (pfill k i v) (n, s, F, A, o) Q := ⟨_, _, if_pos hv, h⟩
theorem Rn_row {Q : (Unit ⊕ String) → PS → Prop} {k i : Nat} (hi : i < if k = 3 then 4 else 3) (h : Q (.inl ()) (n, s, F, A, o)) : Rn (prow k (nI i)) (n, s, F, A, o) Q := ⟨_, _, if_pos (oob_nI hi (by split <;> omega)), h⟩
theorem Rn_siz {Q : (Int32 ⊕ String) → PS → Prop} {j : Nat} (h : Q (.inl (F 0 j 2)) (n, s, F, A, o)) : Rn (psiz j) (n, s, F, A, o) Q := ⟨_, _, rfl, h⟩
theorem Rn_get {Q : (Unit ⊕ String) → PS → Prop} {j i m : Nat} (hm : F 0 j 2 = nI m) (hi : i < m) (hb : m < 2 ^ 31) (h : Q (.inl ()) (n, s, F, A, o)) : Rn (pget j (nI i)) (n, s, F, A, o) Q := by
  refine ⟨_, _, if_pos ?_, h⟩
  show oobB (nI i) (F 0 j 2).toNatClampNeg = false
  rw [hm, nI_clamp hb]
  exact oob_nI hi hb
theorem Rn_gO {Q : (Option Nat ⊕ String) → PS → Prop} {i : Nat} (hv : val F 1 i = true) (h : Q (.inl (if F 1 i 1 = 0 then none else some (2 * i + 1))) (n, s, F, A, o)) : Rn (pgO i) (n, s, F, A, o) Q := ⟨_, _, if_pos hv, h⟩
theorem Rn_gB {Q : (Unit ⊕ String) → PS → Prop} {i : Nat} (hv : val F 1 i = true) (hb : F 1 i 1 ≠ 0) (h : Q (.inl ()) (n, s, F, A, o)) : Rn (pgB i) (n, s, F, A, o) Q := ⟨_, _, if_pos ⟨hv, hb⟩, h⟩
theorem Rn_ldO {Q : (Int64 ⊕ String) → PS → Prop} (h : Q (.inl o) (n, s, F, A, o)) : Rn (pldO 0) (n, s, F, A, o) Q := ⟨_, _, if_pos rfl, h⟩
theorem Rn_stO {Q : (Unit ⊕ String) → PS → Prop} {v : Int64} (h : Q (.inl ()) (n, s, F, A, v)) : Rn (pstO 0 v) (n, s, F, A, o) Q := ⟨_, _, if_pos rfl, h⟩
theorem Rn_divI {Q : (Int32 ⊕ String) → PS → Prop} {x z : Int32} {w : PS} (hz : ¬ z = 0) (h : Q (.inl (x / z)) w) : Rn (pdivI x z) w Q := ⟨_, _, if_neg hz, h⟩
theorem Rn_remI {Q : (Int32 ⊕ String) → PS → Prop} {x z : Int32} {w : PS} (hz : ¬ z = 0) (h : Q (.inl (x - x / z * z)) w) : Rn (premI x z) w Q := ⟨_, _, if_neg hz, h⟩
theorem Rn_divL {Q : (Int64 ⊕ String) → PS → Prop} {x z : Int64} {w : PS} (hz : ¬ z = 0) (h : Q (.inl (x / z)) w) : Rn (pdivL x z) w Q := ⟨_, _, if_neg hz, h⟩
theorem Rn_remL {Q : (Int64 ⊕ String) → PS → Prop} {x z : Int64} {w : PS} (hz : ¬ z = 0) (h : Q (.inl (x - x / z * z)) w) : Rn (premL x z) w Q := ⟨_, _, if_neg hz, h⟩
theorem Rn_ctc {m : PM β} {f : β → PM α} {hd : String → PM α} {w : PS} (h : Rn m w (fun y w1 => match y with | .inl a => Rn (f a) w1 Q | .inr E => Rn (hd E) w1 Q)) : Rn (pctc m f hd) w Q := by
  obtain ⟨y, w1, e, hy⟩ := h
  cases y with
  | inl a =>
    obtain ⟨z, w2, e2, h2⟩ := hy
    exact ⟨z, w2, by simp only [pctc, e]; exact e2, h2⟩
  | inr E =>
    obtain ⟨z, w2, e2, h2⟩ := hy
    exact ⟨z, w2, by simp only [pctc, e]; exact e2, h2⟩
end RN
