/-! the start: what the constructors lay -/
def hl (B S : Nat) (es : List AE) : AH := (B + es.length, S, fun x => if x < B then none else es[x - B]?)
section HL
variable {B S : Nat} {es : List AE}
theorem hl_at (i : Nat) : (hl B S es).2.2 (B + i) = es[i]? := by
  show (if B + i < B then none else es[B + i - B]?) = _
  rw [if_neg (by omega), Nat.add_sub_cancel_left]
theorem hl_app {L : Nat} (hL : es.length = L) (e : AE) {N : Nat} : ((B + es.length + 1, S + N, va_up (hl B S es).2.2 (B + es.length) (some e)) : AH) = hl B (S + N) (es ++ [e]) := by
  unfold hl
  refine Prod.ext ?_ (Prod.ext rfl ?_)
  · show B + es.length + 1 = B + (es ++ [e]).length
    simp
    omega
  · funext x
    show va_up (fun x => if x < B then none else es[x - B]?) (B + es.length) (some e) x = if x < B then none else (es ++ [e])[x - B]?
    by_cases q : x = B + es.length
    · subst q
      rw [va_up_self, if_neg (by omega), Nat.add_sub_cancel_left]
      simp
    · rw [va_up_ne _ _ q]
      by_cases q2 : x < B
      · rw [if_pos q2, if_pos q2]
      · rw [if_neg q2, if_neg q2]
        by_cases q3 : x - B < es.length
        · rw [List.getElem?_append_left q3]
        · rw [List.getElem?_eq_none (by omega), List.getElem?_eq_none (by simp; omega)]
theorem newO_hl {ci N L : Nat} {fs : List Value} (hL : es.length = L) : newO ci N fs (hl B S es) = some (.inl (B + L), hl B (S + N) (es ++ [.inr (ci, fs)])) := by
  rw [← hl_app hL]
  subst hL
  rfl
theorem newK_hl {k n L : Nat} {c : (Nat → Int32) ⊕ (Nat → Int64) ⊕ (Nat → UInt32) ⊕ (Nat → UInt64) ⊕ (Nat → Option Nat)} (hL : es.length = L) (hn : n ≤ 1000000) : newK k c (nI n) (hl B S es) = some (.inl (B + L), hl B (S + n) (es ++ [.inl (k, n, c)])) := by
  rw [newK_eq hn, ← hl_app hL]
  subst hL
  rfl
theorem hset_hl {i : Nat} {e : AE} (hi : i < es.length) : hset (hl B S es) (B + i) e = hl B S (es.set i e) := by
  unfold hset hl
  refine Prod.ext ?_ (Prod.ext rfl ?_)
  · show B + es.length = B + (es.set i e).length
    simp
  · funext x
    show va_up (fun x => if x < B then none else es[x - B]?) (B + i) (some e) x = if x < B then none else (es.set i e)[x - B]?
    by_cases q : x = B + i
    · subst q
      rw [va_up_self, if_neg (by omega), Nat.add_sub_cancel_left]
      simp [hi]
    · rw [va_up_ne _ _ q]
      by_cases q2 : x < B
      · rw [if_pos q2, if_pos q2]
      · rw [if_neg q2, if_neg q2, List.getElem?_set_ne (by omega)]
theorem pV_hl {ci k i : Nat} {v : Value} {fs : List Value} (he : es[i]? = some (.inr (ci, fs))) (hk : k < fs.length) : pV (B + i) ci k v (hl B S es) = some (.inl (), hl B S (es.set i (.inr (ci, fs.set k v)))) := by
  rw [pV_eq (by rw [hl_at]; exact he) hk, hset_hl]
  exact (List.getElem?_eq_some_iff.mp he).1
theorem newM_hl {n k L : Nat} (hL : es.length = L) (hn : n ≤ 1000) (hk : k ≤ 1000) : newM (nI n) (nI k) (hl B S es) = some (.inl (B + L), hl B (S + (n + n * k)) (es ++ .inl (4, n, rfA fun i => if i < n then some (B + L + 1 + i) else none) :: List.replicate n (.inl (0, k, .inl fun _ => 0)))) := by
  subst hL
  unfold newM
  rw [if_neg, nI_clamp (by omega), nI_clamp (by omega)]
  · refine congrArg some (Prod.ext rfl (Prod.ext ?_ (Prod.ext rfl ?_)))
    · show B + es.length + (1 + n) = B + (es ++ _ :: List.replicate n _).length
      simp
      omega
    · funext x
      show (if x = B + es.length then _ else if B + es.length < x ∧ x < B + es.length + 1 + n then _ else if x < B then none else es[x - B]?) = if x < B then none else (es ++ _ :: List.replicate n _)[x - B]?
      by_cases q : x = B + es.length
      · subst q
        rw [if_pos rfl, if_neg (by omega), Nat.add_sub_cancel_left]
        simp
        rfl
      · rw [if_neg q]
        by_cases q2 : x < B
        · rw [if_neg (by omega), if_pos q2, if_pos q2]
        · rw [if_neg q2]
          by_cases q3 : x - B < es.length
          · rw [if_neg (by omega), if_neg q2, List.getElem?_append_left q3]
          · by_cases q4 : x < B + es.length + 1 + n
            · rw [if_pos (by omega), List.getElem?_append_right (by omega)]
              obtain ⟨m, hm⟩ : ∃ m, x - B - es.length = m + 1 := ⟨x - B - es.length - 1, by omega⟩
              rw [hm, List.getElem?_cons_succ, List.getElem?_replicate]
              by_cases q5 : m < n
              · simp [q5]; omega
              · omega
            · rw [if_neg (by omega), if_neg q2, List.getElem?_eq_none (by omega), List.getElem?_eq_none (by simp; omega)]
  · rw [nI_clamp (by omega), nI_clamp (by omega)]
    intro q
    rcases q with q | q | q | q
    · exact nI_pos (by omega) q
    · omega
    · exact nI_pos (by omega) q
    · omega
theorem listInit {t0 mi i : Nat} (he : es[i]? = some (.inr (0, [.int 0, .null, .int 0]))) : f_Jx4a65c_init_da8c8 t0 mi (B + i) (hl B S es) = some (.inl (), hl B S (es.set i (.inr (0, [.int 0, .ref t0, .int 0])))) := by
  have hi := (List.getElem?_eq_some_iff.mp he).1
  unfold f_Jx4a65c_init_da8c8 f_Jxc12de_init_da8c8 f_Jxa1e45_init_da8c8
  have e1 : (bnd (rt ()) fun _ => bnd (pV (B + i) 0 0 (.int (0 : Int32))) fun _ => rt ()) (hl B S es) = some (.inl (), hl B S (es.set i (.inr (0, [.int 0, .null, .int 0])))) := by
    refine (bnd_eq (v := ()) (h1 := hl B S es) rfl).trans ?_
    rw [bnd_eq (pV_hl he (Nat.le_of_ble_eq_true rfl))]
    rfl
  rw [bnd_eq e1, bnd_eq (pV_hl (fs := [.int 0, .null, .int 0]) (by simp [hi]) (Nat.le_of_ble_eq_true rfl))]
  simp [rt]
end HL
def E1 (B t0 : Nat) : List AE := [.inr (6, [.ref (B + 1), .ref (B + 13), .ref (B + 14), .ref (B + 16), .int 0]),
  .inr (3, [.ref (B + 2), .int 0, .ref (B + 3), .ref (B + 4), .ref (B + 9)]),
  .inl (0, 10, .inl fun _ => 0),
  .inr (0, [.int 0, .ref t0, .int 0]),
  .inl (4, 4, rfA fun i => if i < 4 then some (B + 4 + 1 + i) else none),
  .inl (0, 10, .inl fun _ => 0),
  .inl (0, 10, .inl fun _ => 0),
  .inl (0, 10, .inl fun _ => 0),
  .inl (0, 10, .inl fun _ => 0),
  .inl (4, 3, rfA fun i => if i < 3 then some (B + 9 + 1 + i) else none),
  .inl (0, 10, .inl fun _ => 0),
  .inl (0, 10, .inl fun _ => 0),
  .inl (0, 10, .inl fun _ => 0),
  .inr (0, [.int 0, .ref t0, .int 0]),
  .inr (2, [.ref (B + 15), .int 0]),
  .inl (0, 40, .inl fun _ => 0),
  .inl (0, 60, .inl fun _ => 0)]
def E2 (B t0 : Nat) : List AE := [.inr (6, [.ref (B + 1), .ref (B + 13), .ref (B + 14), .ref (B + 16), .int 0]),
  .inr (3, [.ref (B + 2), .int 0, .ref (B + 3), .ref (B + 4), .ref (B + 9)]),
  .inl (0, 10, .inl fun _ => 0),
  .inr (0, [.int 0, .ref t0, .int 0]),
  .inl (4, 4, rfA fun i => if i < 4 then some (B + 4 + 1 + i) else none),
  .inl (0, 10, .inl fun _ => 0),
  .inl (0, 10, .inl fun _ => 0),
  .inl (0, 10, .inl fun _ => 0),
  .inl (0, 10, .inl fun _ => 0),
  .inl (4, 3, rfA fun i => if i < 3 then some (B + 9 + 1 + i) else none),
  .inl (0, 10, .inl fun _ => 0),
  .inl (0, 10, .inl fun _ => 0),
  .inl (0, 10, .inl fun _ => 0),
  .inr (0, [.int 0, .ref t0, .int 0]),
  .inr (2, [.ref (B + 15), .int 0]),
  .inl (0, 40, .inl fun _ => 0),
  .inl (0, 60, .inl fun _ => 0),
  .inr (7, [.int 0, .int 0, .int 0, .int 0, .int 0, .int 0, .ref (B + 18), .ref (B + 19), .ref (B + 20), .ref (B + 21), .ref (B + 22), .ref (B + 23), .ref (B + 24), .ref (B + 25), .ref (B + 26), .ref (B + 27), .ref (B + 28), .ref (B + 29), .ref (B + 30), .ref (B + 31), .ref (B + 32), .ref (B + 33), .ref (B + 34), .ref (B + 35), .ref (B + 36), .ref (B + 37), .ref (B + 38), .ref (B + 39), .ref (B + 40), .ref (B + 41), .ref (B + 42), .ref (B + 43), .int 0, .int 0, .int 0, .int 0, .int 0, .ref (B + 44)]),
  .inl (0, 10, .inl fun _ => 0),
  .inl (0, 16, .inl fun _ => 0),
  .inl (0, 16, .inl fun _ => 0),
  .inl (0, 160, .inl fun _ => 0),
  .inl (0, 160, .inl fun _ => 0),
  .inl (0, 160, .inl fun _ => 0),
  .inl (0, 40, .inl fun _ => 0),
  .inl (2, 16, .inl fun _ => 0),
  .inl (0, 60, .inl fun _ => 0),
  .inl (0, 60, .inl fun _ => 0),
  .inl (0, 60, .inl fun _ => 0),
  .inl (0, 60, .inl fun _ => 0),
  .inl (0, 60, .inl fun _ => 0),
  .inl (0, 60, .inl fun _ => 0),
  .inl (0, 60, .inl fun _ => 0),
  .inl (2, 60, .inl fun _ => 0),
  .inl (2, 120, .inl fun _ => 0),
  .inl (2, 120, .inl fun _ => 0),
  .inl (0, 120, .inl fun _ => 0),
  .inl (0, 120, .inl fun _ => 0),
  .inl (0, 120, .inl fun _ => 0),
  .inl (0, 360, .inl fun _ => 0),
  .inl (0, 360, .inl fun _ => 0),
  .inl (0, 360, .inl fun _ => 0),
  .inl (0, 640, .inl fun _ => 0),
  .inl (0, 640, .inl fun _ => 0),
  .inl (2, 60, .inl fun _ => 0)]
def E3 (B t0 : Nat) : List AE := [.inr (6, [.ref (B + 1), .ref (B + 13), .ref (B + 14), .ref (B + 16), .int 0]),
  .inr (3, [.ref (B + 2), .int 0, .ref (B + 3), .ref (B + 4), .ref (B + 9)]),
  .inl (0, 10, .inl fun _ => 0),
  .inr (0, [.int 0, .ref t0, .int 0]),
  .inl (4, 4, rfA fun i => if i < 4 then some (B + 4 + 1 + i) else none),
  .inl (0, 10, .inl fun _ => 0),
  .inl (0, 10, .inl fun _ => 0),
  .inl (0, 10, .inl fun _ => 0),
  .inl (0, 10, .inl fun _ => 0),
  .inl (4, 3, rfA fun i => if i < 3 then some (B + 9 + 1 + i) else none),
  .inl (0, 10, .inl fun _ => 0),
  .inl (0, 10, .inl fun _ => 0),
  .inl (0, 10, .inl fun _ => 0),
  .inr (0, [.int 0, .ref t0, .int 0]),
  .inr (2, [.ref (B + 15), .int 0]),
  .inl (0, 40, .inl fun _ => 0),
  .inl (0, 60, .inl fun _ => 0),
  .inr (7, [.int 0, .int 0, .int 0, .int 0, .int 0, .int 0, .ref (B + 18), .ref (B + 19), .ref (B + 20), .ref (B + 21), .ref (B + 22), .ref (B + 23), .ref (B + 24), .ref (B + 25), .ref (B + 26), .ref (B + 27), .ref (B + 28), .ref (B + 29), .ref (B + 30), .ref (B + 31), .ref (B + 32), .ref (B + 33), .ref (B + 34), .ref (B + 35), .ref (B + 36), .ref (B + 37), .ref (B + 38), .ref (B + 39), .ref (B + 40), .ref (B + 41), .ref (B + 42), .ref (B + 43), .int 0, .int 0, .int 0, .int 0, .int 0, .ref (B + 44)]),
  .inl (0, 10, .inl fun _ => 0),
  .inl (0, 16, .inl fun _ => 0),
  .inl (0, 16, .inl fun _ => 0),
  .inl (0, 160, .inl fun _ => 0),
  .inl (0, 160, .inl fun _ => 0),
  .inl (0, 160, .inl fun _ => 0),
  .inl (0, 40, .inl fun _ => 0),
  .inl (2, 16, .inl fun _ => 0),
  .inl (0, 60, .inl fun _ => 0),
  .inl (0, 60, .inl fun _ => 0),
  .inl (0, 60, .inl fun _ => 0),
  .inl (0, 60, .inl fun _ => 0),
  .inl (0, 60, .inl fun _ => 0),
  .inl (0, 60, .inl fun _ => 0),
  .inl (0, 60, .inl fun _ => 0),
  .inl (2, 60, .inl fun _ => 0),
  .inl (2, 120, .inl fun _ => 0),
  .inl (2, 120, .inl fun _ => 0),
  .inl (0, 120, .inl fun _ => 0),
  .inl (0, 120, .inl fun _ => 0),
  .inl (0, 120, .inl fun _ => 0),
  .inl (0, 360, .inl fun _ => 0),
  .inl (0, 360, .inl fun _ => 0),
  .inl (0, 360, .inl fun _ => 0),
  .inl (0, 640, .inl fun _ => 0),
  .inl (0, 640, .inl fun _ => 0),
  .inl (2, 60, .inl fun _ => 0),
  .inl (1, 1, .inr (.inl fun _ => 0))]
section START
variable {B t0 mi : Nat}
theorem x2init : f_X2_init t0 mi (B + 1) (hl B 10 [.inr (6, [.null, .null, .null, .null, .int 0]), .inr (3, [.null, .int 0, .null, .null, .null])]) = some (.inl (), hl B 100 [.inr (6, [.null, .null, .null, .null, .int 0]), .inr (3, [.ref (B + 2), .int 0, .ref (B + 3), .ref (B + 4), .ref (B + 9)]), .inl (0, 10, .inl fun _ => 0), .inr (0, [.int 0, .ref t0, .int 0]), .inl (4, 4, rfA fun i => if i < 4 then some (B + 4 + 1 + i) else none), .inl (0, 10, .inl fun _ => 0), .inl (0, 10, .inl fun _ => 0), .inl (0, 10, .inl fun _ => 0), .inl (0, 10, .inl fun _ => 0), .inl (4, 3, rfA fun i => if i < 3 then some (B + 9 + 1 + i) else none), .inl (0, 10, .inl fun _ => 0), .inl (0, 10, .inl fun _ => 0), .inl (0, 10, .inl fun _ => 0)]) := by
  unfold f_X2_init
  rw [nL_10, nL_4, nL_3]
  refine (bnd_eq (newK_hl (L := 2) rfl (Nat.le_of_ble_eq_true rfl))).trans ?_
  refine (bnd_eq (pV_hl (i := 1) rfl (Nat.le_of_ble_eq_true rfl))).trans ?_
  refine (bnd_eq (pV_hl (i := 1) rfl (Nat.le_of_ble_eq_true rfl))).trans ?_
  refine (bnd_eq (newO_hl (L := 3) rfl)).trans ?_
  refine (bnd_eq (listInit (i := 3) rfl)).trans ?_
  refine (bnd_eq (pV_hl (i := 1) rfl (Nat.le_of_ble_eq_true rfl))).trans ?_
  refine (bnd_eq (newM_hl (L := 4) rfl (Nat.le_of_ble_eq_true rfl) (Nat.le_of_ble_eq_true rfl))).trans ?_
  refine (bnd_eq (pV_hl (i := 1) rfl (Nat.le_of_ble_eq_true rfl))).trans ?_
  refine (bnd_eq (newM_hl (L := 9) rfl (Nat.le_of_ble_eq_true rfl) (Nat.le_of_ble_eq_true rfl))).trans ?_
  refine (bnd_eq (pV_hl (i := 1) rfl (Nat.le_of_ble_eq_true rfl))).trans ?_
  rfl
theorem x1init : f_X1_init t0 mi (B + 14) (hl B 105 ([.inr (6, [.ref (B + 1), .ref (B + 13), .null, .null, .int 0]), .inr (3, [.ref (B + 2), .int 0, .ref (B + 3), .ref (B + 4), .ref (B + 9)]), .inl (0, 10, .inl fun _ => 0), .inr (0, [.int 0, .ref t0, .int 0]), .inl (4, 4, rfA fun i => if i < 4 then some (B + 4 + 1 + i) else none), .inl (0, 10, .inl fun _ => 0), .inl (0, 10, .inl fun _ => 0), .inl (0, 10, .inl fun _ => 0), .inl (0, 10, .inl fun _ => 0), .inl (4, 3, rfA fun i => if i < 3 then some (B + 9 + 1 + i) else none), .inl (0, 10, .inl fun _ => 0), .inl (0, 10, .inl fun _ => 0), .inl (0, 10, .inl fun _ => 0), .inr (0, [.int 0, .ref t0, .int 0]), .inr (2, [.null, .int 0])])) = some (.inl (), hl B 145 ([.inr (6, [.ref (B + 1), .ref (B + 13), .null, .null, .int 0]), .inr (3, [.ref (B + 2), .int 0, .ref (B + 3), .ref (B + 4), .ref (B + 9)]), .inl (0, 10, .inl fun _ => 0), .inr (0, [.int 0, .ref t0, .int 0]), .inl (4, 4, rfA fun i => if i < 4 then some (B + 4 + 1 + i) else none), .inl (0, 10, .inl fun _ => 0), .inl (0, 10, .inl fun _ => 0), .inl (0, 10, .inl fun _ => 0), .inl (0, 10, .inl fun _ => 0), .inl (4, 3, rfA fun i => if i < 3 then some (B + 9 + 1 + i) else none), .inl (0, 10, .inl fun _ => 0), .inl (0, 10, .inl fun _ => 0), .inl (0, 10, .inl fun _ => 0), .inr (0, [.int 0, .ref t0, .int 0]), .inr (2, [.ref (B + 15), .int 0]), .inl (0, 40, .inl fun _ => 0)])) := by
  unfold f_X1_init
  rw [nL_40]
  refine (bnd_eq (newK_hl (L := 15) rfl (Nat.le_of_ble_eq_true rfl))).trans ?_
  refine (bnd_eq (pV_hl (i := 14) rfl (Nat.le_of_ble_eq_true rfl))).trans ?_
  refine (bnd_eq (pV_hl (i := 14) rfl (Nat.le_of_ble_eq_true rfl))).trans ?_
  rfl
theorem x5init : f_X5_init t0 mi (B + 0) (hl B 5 [.inr (6, [.null, .null, .null, .null, .int 0])]) = some (.inl (), hl B 205 (E1 B t0)) := by
  unfold f_X5_init
  rw [nL_60]
  refine (bnd_eq (newO_hl (L := 1) rfl)).trans ?_
  refine (bnd_eq x2init).trans ?_
  refine (bnd_eq (pV_hl (i := 0) rfl (Nat.le_of_ble_eq_true rfl))).trans ?_
  refine (bnd_eq (newO_hl (L := 13) rfl)).trans ?_
  refine (bnd_eq (listInit (i := 13) rfl)).trans ?_
  refine (bnd_eq (pV_hl (i := 0) rfl (Nat.le_of_ble_eq_true rfl))).trans ?_
  refine (bnd_eq (newO_hl (L := 14) rfl)).trans ?_
  refine (bnd_eq x1init).trans ?_
  refine (bnd_eq (pV_hl (i := 0) rfl (Nat.le_of_ble_eq_true rfl))).trans ?_
  refine (bnd_eq (newK_hl (L := 16) rfl (Nat.le_of_ble_eq_true rfl))).trans ?_
  refine (bnd_eq (pV_hl (i := 0) rfl (Nat.le_of_ble_eq_true rfl))).trans ?_
  refine (bnd_eq (pV_hl (i := 0) rfl (Nat.le_of_ble_eq_true rfl))).trans ?_
  rfl
theorem nL_360 : (360 : Int32) = nI 360 := rfl
theorem nL_640 : (640 : Int32) = nI 640 := rfl
theorem step6 {β : Type} {S a k n j : Nat} {c : (Nat → Int32) ⊕ (Nat → Int64) ⊕ (Nat → UInt32) ⊕ (Nat → UInt64) ⊕ (Nat → Option Nat)} {P A A' : List AE} {fs fs' : List Value} {K : Mo β} (hP : P.length = 17) (hA : A.length = a) (hn : n ≤ 1000000) (hj : j < fs.length) (hfs : fs.set j (.ref (B + (18 + a))) = fs') (hA' : A ++ [.inl (k, n, c)] = A') : bnd (newK k c (nI n)) (fun v => bnd (pV (B + 17) 7 j (.ref v)) fun _ => K) (hl B S (P ++ .inr (7, fs) :: A)) = K (hl B (S + n) (P ++ .inr (7, fs') :: A')) := by
  subst hfs hA'
  have e1 : (P ++ .inr (7, fs) :: A).length = 18 + a := by simp [hP, hA]; omega
  rw [bnd_eq (newK_hl e1 hn)]
  have e2 : (P ++ .inr (7, fs) :: A ++ [.inl (k, n, c)])[17]? = some (.inr (7, fs)) := by
    rw [List.append_assoc, List.getElem?_append_right (by omega), hP]
    rfl
  rw [bnd_eq (pV_hl e2 hj)]
  congr 2
  rw [List.append_assoc, List.set_append_right _ _ (by omega), hP]
  rfl
theorem x6init : f_X6_init t0 mi (B + 17) (hl B 243 (E1 B t0 ++ [.inr (7, [.int 0, .int 0, .int 0, .int 0, .int 0, .int 0, .null, .null, .null, .null, .null, .null, .null, .null, .null, .null, .null, .null, .null, .null, .null, .null, .null, .null, .null, .null, .null, .null, .null, .null, .null, .null, .int 0, .int 0, .int 0, .int 0, .int 0, .null])])) = some (.inl (), hl B 4321 (E2 B t0)) := by
  unfold f_X6_init
  rw [nL_10, nL_16, nL_160, nL_40, nL_60, nL_120, nL_360, nL_640]
  refine (step6 (a := 0) (fs' := [.int 0, .int 0, .int 0, .int 0, .int 0, .int 0, .ref (B + 18), .null, .null, .null, .null, .null, .null, .null, .null, .null, .null, .null, .null, .null, .null, .null, .null, .null, .null, .null, .null, .null, .null, .null, .null, .null, .int 0, .int 0, .int 0, .int 0, .int 0, .null]) (A' := [.inl (0, 10, .inl fun _ => 0)]) rfl rfl (Nat.le_of_ble_eq_true rfl) (Nat.le_of_ble_eq_true rfl) rfl rfl).trans ?_
  refine (step6 (a := 1) (fs' := [.int 0, .int 0, .int 0, .int 0, .int 0, .int 0, .ref (B + 18), .ref (B + 19), .null, .null, .null, .null, .null, .null, .null, .null, .null, .null, .null, .null, .null, .null, .null, .null, .null, .null, .null, .null, .null, .null, .null, .null, .int 0, .int 0, .int 0, .int 0, .int 0, .null]) (A' := [.inl (0, 10, .inl fun _ => 0), .inl (0, 16, .inl fun _ => 0)]) rfl rfl (Nat.le_of_ble_eq_true rfl) (Nat.le_of_ble_eq_true rfl) rfl rfl).trans ?_
  refine (step6 (a := 2) (fs' := [.int 0, .int 0, .int 0, .int 0, .int 0, .int 0, .ref (B + 18), .ref (B + 19), .ref (B + 20), .null, .null, .null, .null, .null, .null, .null, .null, .null, .null, .null, .null, .null, .null, .null, .null, .null, .null, .null, .null, .null, .null, .null, .int 0, .int 0, .int 0, .int 0, .int 0, .null]) (A' := [.inl (0, 10, .inl fun _ => 0), .inl (0, 16, .inl fun _ => 0), .inl (0, 16, .inl fun _ => 0)]) rfl rfl (Nat.le_of_ble_eq_true rfl) (Nat.le_of_ble_eq_true rfl) rfl rfl).trans ?_
  refine (step6 (a := 3) (fs' := [.int 0, .int 0, .int 0, .int 0, .int 0, .int 0, .ref (B + 18), .ref (B + 19), .ref (B + 20), .ref (B + 21), .null, .null, .null, .null, .null, .null, .null, .null, .null, .null, .null, .null, .null, .null, .null, .null, .null, .null, .null, .null, .null, .null, .int 0, .int 0, .int 0, .int 0, .int 0, .null]) (A' := [.inl (0, 10, .inl fun _ => 0), .inl (0, 16, .inl fun _ => 0), .inl (0, 16, .inl fun _ => 0), .inl (0, 160, .inl fun _ => 0)]) rfl rfl (Nat.le_of_ble_eq_true rfl) (Nat.le_of_ble_eq_true rfl) rfl rfl).trans ?_
  refine (step6 (a := 4) (fs' := [.int 0, .int 0, .int 0, .int 0, .int 0, .int 0, .ref (B + 18), .ref (B + 19), .ref (B + 20), .ref (B + 21), .ref (B + 22), .null, .null, .null, .null, .null, .null, .null, .null, .null, .null, .null, .null, .null, .null, .null, .null, .null, .null, .null, .null, .null, .int 0, .int 0, .int 0, .int 0, .int 0, .null]) (A' := [.inl (0, 10, .inl fun _ => 0), .inl (0, 16, .inl fun _ => 0), .inl (0, 16, .inl fun _ => 0), .inl (0, 160, .inl fun _ => 0), .inl (0, 160, .inl fun _ => 0)]) rfl rfl (Nat.le_of_ble_eq_true rfl) (Nat.le_of_ble_eq_true rfl) rfl rfl).trans ?_
  refine (step6 (a := 5) (fs' := [.int 0, .int 0, .int 0, .int 0, .int 0, .int 0, .ref (B + 18), .ref (B + 19), .ref (B + 20), .ref (B + 21), .ref (B + 22), .ref (B + 23), .null, .null, .null, .null, .null, .null, .null, .null, .null, .null, .null, .null, .null, .null, .null, .null, .null, .null, .null, .null, .int 0, .int 0, .int 0, .int 0, .int 0, .null]) (A' := [.inl (0, 10, .inl fun _ => 0), .inl (0, 16, .inl fun _ => 0), .inl (0, 16, .inl fun _ => 0), .inl (0, 160, .inl fun _ => 0), .inl (0, 160, .inl fun _ => 0), .inl (0, 160, .inl fun _ => 0)]) rfl rfl (Nat.le_of_ble_eq_true rfl) (Nat.le_of_ble_eq_true rfl) rfl rfl).trans ?_
  refine (step6 (a := 6) (fs' := [.int 0, .int 0, .int 0, .int 0, .int 0, .int 0, .ref (B + 18), .ref (B + 19), .ref (B + 20), .ref (B + 21), .ref (B + 22), .ref (B + 23), .ref (B + 24), .null, .null, .null, .null, .null, .null, .null, .null, .null, .null, .null, .null, .null, .null, .null, .null, .null, .null, .null, .int 0, .int 0, .int 0, .int 0, .int 0, .null]) (A' := [.inl (0, 10, .inl fun _ => 0), .inl (0, 16, .inl fun _ => 0), .inl (0, 16, .inl fun _ => 0), .inl (0, 160, .inl fun _ => 0), .inl (0, 160, .inl fun _ => 0), .inl (0, 160, .inl fun _ => 0), .inl (0, 40, .inl fun _ => 0)]) rfl rfl (Nat.le_of_ble_eq_true rfl) (Nat.le_of_ble_eq_true rfl) rfl rfl).trans ?_
  refine (step6 (a := 7) (fs' := [.int 0, .int 0, .int 0, .int 0, .int 0, .int 0, .ref (B + 18), .ref (B + 19), .ref (B + 20), .ref (B + 21), .ref (B + 22), .ref (B + 23), .ref (B + 24), .ref (B + 25), .null, .null, .null, .null, .null, .null, .null, .null, .null, .null, .null, .null, .null, .null, .null, .null, .null, .null, .int 0, .int 0, .int 0, .int 0, .int 0, .null]) (A' := [.inl (0, 10, .inl fun _ => 0), .inl (0, 16, .inl fun _ => 0), .inl (0, 16, .inl fun _ => 0), .inl (0, 160, .inl fun _ => 0), .inl (0, 160, .inl fun _ => 0), .inl (0, 160, .inl fun _ => 0), .inl (0, 40, .inl fun _ => 0), .inl (2, 16, .inl fun _ => 0)]) rfl rfl (Nat.le_of_ble_eq_true rfl) (Nat.le_of_ble_eq_true rfl) rfl rfl).trans ?_
  refine (step6 (a := 8) (fs' := [.int 0, .int 0, .int 0, .int 0, .int 0, .int 0, .ref (B + 18), .ref (B + 19), .ref (B + 20), .ref (B + 21), .ref (B + 22), .ref (B + 23), .ref (B + 24), .ref (B + 25), .ref (B + 26), .null, .null, .null, .null, .null, .null, .null, .null, .null, .null, .null, .null, .null, .null, .null, .null, .null, .int 0, .int 0, .int 0, .int 0, .int 0, .null]) (A' := [.inl (0, 10, .inl fun _ => 0), .inl (0, 16, .inl fun _ => 0), .inl (0, 16, .inl fun _ => 0), .inl (0, 160, .inl fun _ => 0), .inl (0, 160, .inl fun _ => 0), .inl (0, 160, .inl fun _ => 0), .inl (0, 40, .inl fun _ => 0), .inl (2, 16, .inl fun _ => 0), .inl (0, 60, .inl fun _ => 0)]) rfl rfl (Nat.le_of_ble_eq_true rfl) (Nat.le_of_ble_eq_true rfl) rfl rfl).trans ?_
  refine (step6 (a := 9) (fs' := [.int 0, .int 0, .int 0, .int 0, .int 0, .int 0, .ref (B + 18), .ref (B + 19), .ref (B + 20), .ref (B + 21), .ref (B + 22), .ref (B + 23), .ref (B + 24), .ref (B + 25), .ref (B + 26), .ref (B + 27), .null, .null, .null, .null, .null, .null, .null, .null, .null, .null, .null, .null, .null, .null, .null, .null, .int 0, .int 0, .int 0, .int 0, .int 0, .null]) (A' := [.inl (0, 10, .inl fun _ => 0), .inl (0, 16, .inl fun _ => 0), .inl (0, 16, .inl fun _ => 0), .inl (0, 160, .inl fun _ => 0), .inl (0, 160, .inl fun _ => 0), .inl (0, 160, .inl fun _ => 0), .inl (0, 40, .inl fun _ => 0), .inl (2, 16, .inl fun _ => 0), .inl (0, 60, .inl fun _ => 0), .inl (0, 60, .inl fun _ => 0)]) rfl rfl (Nat.le_of_ble_eq_true rfl) (Nat.le_of_ble_eq_true rfl) rfl rfl).trans ?_
  refine (step6 (a := 10) (fs' := [.int 0, .int 0, .int 0, .int 0, .int 0, .int 0, .ref (B + 18), .ref (B + 19), .ref (B + 20), .ref (B + 21), .ref (B + 22), .ref (B + 23), .ref (B + 24), .ref (B + 25), .ref (B + 26), .ref (B + 27), .ref (B + 28), .null, .null, .null, .null, .null, .null, .null, .null, .null, .null, .null, .null, .null, .null, .null, .int 0, .int 0, .int 0, .int 0, .int 0, .null]) (A' := [.inl (0, 10, .inl fun _ => 0), .inl (0, 16, .inl fun _ => 0), .inl (0, 16, .inl fun _ => 0), .inl (0, 160, .inl fun _ => 0), .inl (0, 160, .inl fun _ => 0), .inl (0, 160, .inl fun _ => 0), .inl (0, 40, .inl fun _ => 0), .inl (2, 16, .inl fun _ => 0), .inl (0, 60, .inl fun _ => 0), .inl (0, 60, .inl fun _ => 0), .inl (0, 60, .inl fun _ => 0)]) rfl rfl (Nat.le_of_ble_eq_true rfl) (Nat.le_of_ble_eq_true rfl) rfl rfl).trans ?_
  refine (step6 (a := 11) (fs' := [.int 0, .int 0, .int 0, .int 0, .int 0, .int 0, .ref (B + 18), .ref (B + 19), .ref (B + 20), .ref (B + 21), .ref (B + 22), .ref (B + 23), .ref (B + 24), .ref (B + 25), .ref (B + 26), .ref (B + 27), .ref (B + 28), .ref (B + 29), .null, .null, .null, .null, .null, .null, .null, .null, .null, .null, .null, .null, .null, .null, .int 0, .int 0, .int 0, .int 0, .int 0, .null]) (A' := [.inl (0, 10, .inl fun _ => 0), .inl (0, 16, .inl fun _ => 0), .inl (0, 16, .inl fun _ => 0), .inl (0, 160, .inl fun _ => 0), .inl (0, 160, .inl fun _ => 0), .inl (0, 160, .inl fun _ => 0), .inl (0, 40, .inl fun _ => 0), .inl (2, 16, .inl fun _ => 0), .inl (0, 60, .inl fun _ => 0), .inl (0, 60, .inl fun _ => 0), .inl (0, 60, .inl fun _ => 0), .inl (0, 60, .inl fun _ => 0)]) rfl rfl (Nat.le_of_ble_eq_true rfl) (Nat.le_of_ble_eq_true rfl) rfl rfl).trans ?_
  refine (step6 (a := 12) (fs' := [.int 0, .int 0, .int 0, .int 0, .int 0, .int 0, .ref (B + 18), .ref (B + 19), .ref (B + 20), .ref (B + 21), .ref (B + 22), .ref (B + 23), .ref (B + 24), .ref (B + 25), .ref (B + 26), .ref (B + 27), .ref (B + 28), .ref (B + 29), .ref (B + 30), .null, .null, .null, .null, .null, .null, .null, .null, .null, .null, .null, .null, .null, .int 0, .int 0, .int 0, .int 0, .int 0, .null]) (A' := [.inl (0, 10, .inl fun _ => 0), .inl (0, 16, .inl fun _ => 0), .inl (0, 16, .inl fun _ => 0), .inl (0, 160, .inl fun _ => 0), .inl (0, 160, .inl fun _ => 0), .inl (0, 160, .inl fun _ => 0), .inl (0, 40, .inl fun _ => 0), .inl (2, 16, .inl fun _ => 0), .inl (0, 60, .inl fun _ => 0), .inl (0, 60, .inl fun _ => 0), .inl (0, 60, .inl fun _ => 0), .inl (0, 60, .inl fun _ => 0), .inl (0, 60, .inl fun _ => 0)]) rfl rfl (Nat.le_of_ble_eq_true rfl) (Nat.le_of_ble_eq_true rfl) rfl rfl).trans ?_
  refine (step6 (a := 13) (fs' := [.int 0, .int 0, .int 0, .int 0, .int 0, .int 0, .ref (B + 18), .ref (B + 19), .ref (B + 20), .ref (B + 21), .ref (B + 22), .ref (B + 23), .ref (B + 24), .ref (B + 25), .ref (B + 26), .ref (B + 27), .ref (B + 28), .ref (B + 29), .ref (B + 30), .ref (B + 31), .null, .null, .null, .null, .null, .null, .null, .null, .null, .null, .null, .null, .int 0, .int 0, .int 0, .int 0, .int 0, .null]) (A' := [.inl (0, 10, .inl fun _ => 0), .inl (0, 16, .inl fun _ => 0), .inl (0, 16, .inl fun _ => 0), .inl (0, 160, .inl fun _ => 0), .inl (0, 160, .inl fun _ => 0), .inl (0, 160, .inl fun _ => 0), .inl (0, 40, .inl fun _ => 0), .inl (2, 16, .inl fun _ => 0), .inl (0, 60, .inl fun _ => 0), .inl (0, 60, .inl fun _ => 0), .inl (0, 60, .inl fun _ => 0), .inl (0, 60, .inl fun _ => 0), .inl (0, 60, .inl fun _ => 0), .inl (0, 60, .inl fun _ => 0)]) rfl rfl (Nat.le_of_ble_eq_true rfl) (Nat.le_of_ble_eq_true rfl) rfl rfl).trans ?_
  refine (step6 (a := 14) (fs' := [.int 0, .int 0, .int 0, .int 0, .int 0, .int 0, .ref (B + 18), .ref (B + 19), .ref (B + 20), .ref (B + 21), .ref (B + 22), .ref (B + 23), .ref (B + 24), .ref (B + 25), .ref (B + 26), .ref (B + 27), .ref (B + 28), .ref (B + 29), .ref (B + 30), .ref (B + 31), .ref (B + 32), .null, .null, .null, .null, .null, .null, .null, .null, .null, .null, .null, .int 0, .int 0, .int 0, .int 0, .int 0, .null]) (A' := [.inl (0, 10, .inl fun _ => 0), .inl (0, 16, .inl fun _ => 0), .inl (0, 16, .inl fun _ => 0), .inl (0, 160, .inl fun _ => 0), .inl (0, 160, .inl fun _ => 0), .inl (0, 160, .inl fun _ => 0), .inl (0, 40, .inl fun _ => 0), .inl (2, 16, .inl fun _ => 0), .inl (0, 60, .inl fun _ => 0), .inl (0, 60, .inl fun _ => 0), .inl (0, 60, .inl fun _ => 0), .inl (0, 60, .inl fun _ => 0), .inl (0, 60, .inl fun _ => 0), .inl (0, 60, .inl fun _ => 0), .inl (0, 60, .inl fun _ => 0)]) rfl rfl (Nat.le_of_ble_eq_true rfl) (Nat.le_of_ble_eq_true rfl) rfl rfl).trans ?_
  refine (step6 (a := 15) (fs' := [.int 0, .int 0, .int 0, .int 0, .int 0, .int 0, .ref (B + 18), .ref (B + 19), .ref (B + 20), .ref (B + 21), .ref (B + 22), .ref (B + 23), .ref (B + 24), .ref (B + 25), .ref (B + 26), .ref (B + 27), .ref (B + 28), .ref (B + 29), .ref (B + 30), .ref (B + 31), .ref (B + 32), .ref (B + 33), .null, .null, .null, .null, .null, .null, .null, .null, .null, .null, .int 0, .int 0, .int 0, .int 0, .int 0, .null]) (A' := [.inl (0, 10, .inl fun _ => 0), .inl (0, 16, .inl fun _ => 0), .inl (0, 16, .inl fun _ => 0), .inl (0, 160, .inl fun _ => 0), .inl (0, 160, .inl fun _ => 0), .inl (0, 160, .inl fun _ => 0), .inl (0, 40, .inl fun _ => 0), .inl (2, 16, .inl fun _ => 0), .inl (0, 60, .inl fun _ => 0), .inl (0, 60, .inl fun _ => 0), .inl (0, 60, .inl fun _ => 0), .inl (0, 60, .inl fun _ => 0), .inl (0, 60, .inl fun _ => 0), .inl (0, 60, .inl fun _ => 0), .inl (0, 60, .inl fun _ => 0), .inl (2, 60, .inl fun _ => 0)]) rfl rfl (Nat.le_of_ble_eq_true rfl) (Nat.le_of_ble_eq_true rfl) rfl rfl).trans ?_
  refine (step6 (a := 16) (fs' := [.int 0, .int 0, .int 0, .int 0, .int 0, .int 0, .ref (B + 18), .ref (B + 19), .ref (B + 20), .ref (B + 21), .ref (B + 22), .ref (B + 23), .ref (B + 24), .ref (B + 25), .ref (B + 26), .ref (B + 27), .ref (B + 28), .ref (B + 29), .ref (B + 30), .ref (B + 31), .ref (B + 32), .ref (B + 33), .ref (B + 34), .null, .null, .null, .null, .null, .null, .null, .null, .null, .int 0, .int 0, .int 0, .int 0, .int 0, .null]) (A' := [.inl (0, 10, .inl fun _ => 0), .inl (0, 16, .inl fun _ => 0), .inl (0, 16, .inl fun _ => 0), .inl (0, 160, .inl fun _ => 0), .inl (0, 160, .inl fun _ => 0), .inl (0, 160, .inl fun _ => 0), .inl (0, 40, .inl fun _ => 0), .inl (2, 16, .inl fun _ => 0), .inl (0, 60, .inl fun _ => 0), .inl (0, 60, .inl fun _ => 0), .inl (0, 60, .inl fun _ => 0), .inl (0, 60, .inl fun _ => 0), .inl (0, 60, .inl fun _ => 0), .inl (0, 60, .inl fun _ => 0), .inl (0, 60, .inl fun _ => 0), .inl (2, 60, .inl fun _ => 0), .inl (2, 120, .inl fun _ => 0)]) rfl rfl (Nat.le_of_ble_eq_true rfl) (Nat.le_of_ble_eq_true rfl) rfl rfl).trans ?_
  refine (step6 (a := 17) (fs' := [.int 0, .int 0, .int 0, .int 0, .int 0, .int 0, .ref (B + 18), .ref (B + 19), .ref (B + 20), .ref (B + 21), .ref (B + 22), .ref (B + 23), .ref (B + 24), .ref (B + 25), .ref (B + 26), .ref (B + 27), .ref (B + 28), .ref (B + 29), .ref (B + 30), .ref (B + 31), .ref (B + 32), .ref (B + 33), .ref (B + 34), .ref (B + 35), .null, .null, .null, .null, .null, .null, .null, .null, .int 0, .int 0, .int 0, .int 0, .int 0, .null]) (A' := [.inl (0, 10, .inl fun _ => 0), .inl (0, 16, .inl fun _ => 0), .inl (0, 16, .inl fun _ => 0), .inl (0, 160, .inl fun _ => 0), .inl (0, 160, .inl fun _ => 0), .inl (0, 160, .inl fun _ => 0), .inl (0, 40, .inl fun _ => 0), .inl (2, 16, .inl fun _ => 0), .inl (0, 60, .inl fun _ => 0), .inl (0, 60, .inl fun _ => 0), .inl (0, 60, .inl fun _ => 0), .inl (0, 60, .inl fun _ => 0), .inl (0, 60, .inl fun _ => 0), .inl (0, 60, .inl fun _ => 0), .inl (0, 60, .inl fun _ => 0), .inl (2, 60, .inl fun _ => 0), .inl (2, 120, .inl fun _ => 0), .inl (2, 120, .inl fun _ => 0)]) rfl rfl (Nat.le_of_ble_eq_true rfl) (Nat.le_of_ble_eq_true rfl) rfl rfl).trans ?_
  refine (step6 (a := 18) (fs' := [.int 0, .int 0, .int 0, .int 0, .int 0, .int 0, .ref (B + 18), .ref (B + 19), .ref (B + 20), .ref (B + 21), .ref (B + 22), .ref (B + 23), .ref (B + 24), .ref (B + 25), .ref (B + 26), .ref (B + 27), .ref (B + 28), .ref (B + 29), .ref (B + 30), .ref (B + 31), .ref (B + 32), .ref (B + 33), .ref (B + 34), .ref (B + 35), .ref (B + 36), .null, .null, .null, .null, .null, .null, .null, .int 0, .int 0, .int 0, .int 0, .int 0, .null]) (A' := [.inl (0, 10, .inl fun _ => 0), .inl (0, 16, .inl fun _ => 0), .inl (0, 16, .inl fun _ => 0), .inl (0, 160, .inl fun _ => 0), .inl (0, 160, .inl fun _ => 0), .inl (0, 160, .inl fun _ => 0), .inl (0, 40, .inl fun _ => 0), .inl (2, 16, .inl fun _ => 0), .inl (0, 60, .inl fun _ => 0), .inl (0, 60, .inl fun _ => 0), .inl (0, 60, .inl fun _ => 0), .inl (0, 60, .inl fun _ => 0), .inl (0, 60, .inl fun _ => 0), .inl (0, 60, .inl fun _ => 0), .inl (0, 60, .inl fun _ => 0), .inl (2, 60, .inl fun _ => 0), .inl (2, 120, .inl fun _ => 0), .inl (2, 120, .inl fun _ => 0), .inl (0, 120, .inl fun _ => 0)]) rfl rfl (Nat.le_of_ble_eq_true rfl) (Nat.le_of_ble_eq_true rfl) rfl rfl).trans ?_
  refine (step6 (a := 19) (fs' := [.int 0, .int 0, .int 0, .int 0, .int 0, .int 0, .ref (B + 18), .ref (B + 19), .ref (B + 20), .ref (B + 21), .ref (B + 22), .ref (B + 23), .ref (B + 24), .ref (B + 25), .ref (B + 26), .ref (B + 27), .ref (B + 28), .ref (B + 29), .ref (B + 30), .ref (B + 31), .ref (B + 32), .ref (B + 33), .ref (B + 34), .ref (B + 35), .ref (B + 36), .ref (B + 37), .null, .null, .null, .null, .null, .null, .int 0, .int 0, .int 0, .int 0, .int 0, .null]) (A' := [.inl (0, 10, .inl fun _ => 0), .inl (0, 16, .inl fun _ => 0), .inl (0, 16, .inl fun _ => 0), .inl (0, 160, .inl fun _ => 0), .inl (0, 160, .inl fun _ => 0), .inl (0, 160, .inl fun _ => 0), .inl (0, 40, .inl fun _ => 0), .inl (2, 16, .inl fun _ => 0), .inl (0, 60, .inl fun _ => 0), .inl (0, 60, .inl fun _ => 0), .inl (0, 60, .inl fun _ => 0), .inl (0, 60, .inl fun _ => 0), .inl (0, 60, .inl fun _ => 0), .inl (0, 60, .inl fun _ => 0), .inl (0, 60, .inl fun _ => 0), .inl (2, 60, .inl fun _ => 0), .inl (2, 120, .inl fun _ => 0), .inl (2, 120, .inl fun _ => 0), .inl (0, 120, .inl fun _ => 0), .inl (0, 120, .inl fun _ => 0)]) rfl rfl (Nat.le_of_ble_eq_true rfl) (Nat.le_of_ble_eq_true rfl) rfl rfl).trans ?_
  refine (step6 (a := 20) (fs' := [.int 0, .int 0, .int 0, .int 0, .int 0, .int 0, .ref (B + 18), .ref (B + 19), .ref (B + 20), .ref (B + 21), .ref (B + 22), .ref (B + 23), .ref (B + 24), .ref (B + 25), .ref (B + 26), .ref (B + 27), .ref (B + 28), .ref (B + 29), .ref (B + 30), .ref (B + 31), .ref (B + 32), .ref (B + 33), .ref (B + 34), .ref (B + 35), .ref (B + 36), .ref (B + 37), .ref (B + 38), .null, .null, .null, .null, .null, .int 0, .int 0, .int 0, .int 0, .int 0, .null]) (A' := [.inl (0, 10, .inl fun _ => 0), .inl (0, 16, .inl fun _ => 0), .inl (0, 16, .inl fun _ => 0), .inl (0, 160, .inl fun _ => 0), .inl (0, 160, .inl fun _ => 0), .inl (0, 160, .inl fun _ => 0), .inl (0, 40, .inl fun _ => 0), .inl (2, 16, .inl fun _ => 0), .inl (0, 60, .inl fun _ => 0), .inl (0, 60, .inl fun _ => 0), .inl (0, 60, .inl fun _ => 0), .inl (0, 60, .inl fun _ => 0), .inl (0, 60, .inl fun _ => 0), .inl (0, 60, .inl fun _ => 0), .inl (0, 60, .inl fun _ => 0), .inl (2, 60, .inl fun _ => 0), .inl (2, 120, .inl fun _ => 0), .inl (2, 120, .inl fun _ => 0), .inl (0, 120, .inl fun _ => 0), .inl (0, 120, .inl fun _ => 0), .inl (0, 120, .inl fun _ => 0)]) rfl rfl (Nat.le_of_ble_eq_true rfl) (Nat.le_of_ble_eq_true rfl) rfl rfl).trans ?_
  refine (step6 (a := 21) (fs' := [.int 0, .int 0, .int 0, .int 0, .int 0, .int 0, .ref (B + 18), .ref (B + 19), .ref (B + 20), .ref (B + 21), .ref (B + 22), .ref (B + 23), .ref (B + 24), .ref (B + 25), .ref (B + 26), .ref (B + 27), .ref (B + 28), .ref (B + 29), .ref (B + 30), .ref (B + 31), .ref (B + 32), .ref (B + 33), .ref (B + 34), .ref (B + 35), .ref (B + 36), .ref (B + 37), .ref (B + 38), .ref (B + 39), .null, .null, .null, .null, .int 0, .int 0, .int 0, .int 0, .int 0, .null]) (A' := [.inl (0, 10, .inl fun _ => 0), .inl (0, 16, .inl fun _ => 0), .inl (0, 16, .inl fun _ => 0), .inl (0, 160, .inl fun _ => 0), .inl (0, 160, .inl fun _ => 0), .inl (0, 160, .inl fun _ => 0), .inl (0, 40, .inl fun _ => 0), .inl (2, 16, .inl fun _ => 0), .inl (0, 60, .inl fun _ => 0), .inl (0, 60, .inl fun _ => 0), .inl (0, 60, .inl fun _ => 0), .inl (0, 60, .inl fun _ => 0), .inl (0, 60, .inl fun _ => 0), .inl (0, 60, .inl fun _ => 0), .inl (0, 60, .inl fun _ => 0), .inl (2, 60, .inl fun _ => 0), .inl (2, 120, .inl fun _ => 0), .inl (2, 120, .inl fun _ => 0), .inl (0, 120, .inl fun _ => 0), .inl (0, 120, .inl fun _ => 0), .inl (0, 120, .inl fun _ => 0), .inl (0, 360, .inl fun _ => 0)]) rfl rfl (Nat.le_of_ble_eq_true rfl) (Nat.le_of_ble_eq_true rfl) rfl rfl).trans ?_
  refine (step6 (a := 22) (fs' := [.int 0, .int 0, .int 0, .int 0, .int 0, .int 0, .ref (B + 18), .ref (B + 19), .ref (B + 20), .ref (B + 21), .ref (B + 22), .ref (B + 23), .ref (B + 24), .ref (B + 25), .ref (B + 26), .ref (B + 27), .ref (B + 28), .ref (B + 29), .ref (B + 30), .ref (B + 31), .ref (B + 32), .ref (B + 33), .ref (B + 34), .ref (B + 35), .ref (B + 36), .ref (B + 37), .ref (B + 38), .ref (B + 39), .ref (B + 40), .null, .null, .null, .int 0, .int 0, .int 0, .int 0, .int 0, .null]) (A' := [.inl (0, 10, .inl fun _ => 0), .inl (0, 16, .inl fun _ => 0), .inl (0, 16, .inl fun _ => 0), .inl (0, 160, .inl fun _ => 0), .inl (0, 160, .inl fun _ => 0), .inl (0, 160, .inl fun _ => 0), .inl (0, 40, .inl fun _ => 0), .inl (2, 16, .inl fun _ => 0), .inl (0, 60, .inl fun _ => 0), .inl (0, 60, .inl fun _ => 0), .inl (0, 60, .inl fun _ => 0), .inl (0, 60, .inl fun _ => 0), .inl (0, 60, .inl fun _ => 0), .inl (0, 60, .inl fun _ => 0), .inl (0, 60, .inl fun _ => 0), .inl (2, 60, .inl fun _ => 0), .inl (2, 120, .inl fun _ => 0), .inl (2, 120, .inl fun _ => 0), .inl (0, 120, .inl fun _ => 0), .inl (0, 120, .inl fun _ => 0), .inl (0, 120, .inl fun _ => 0), .inl (0, 360, .inl fun _ => 0), .inl (0, 360, .inl fun _ => 0)]) rfl rfl (Nat.le_of_ble_eq_true rfl) (Nat.le_of_ble_eq_true rfl) rfl rfl).trans ?_
  refine (step6 (a := 23) (fs' := [.int 0, .int 0, .int 0, .int 0, .int 0, .int 0, .ref (B + 18), .ref (B + 19), .ref (B + 20), .ref (B + 21), .ref (B + 22), .ref (B + 23), .ref (B + 24), .ref (B + 25), .ref (B + 26), .ref (B + 27), .ref (B + 28), .ref (B + 29), .ref (B + 30), .ref (B + 31), .ref (B + 32), .ref (B + 33), .ref (B + 34), .ref (B + 35), .ref (B + 36), .ref (B + 37), .ref (B + 38), .ref (B + 39), .ref (B + 40), .ref (B + 41), .null, .null, .int 0, .int 0, .int 0, .int 0, .int 0, .null]) (A' := [.inl (0, 10, .inl fun _ => 0), .inl (0, 16, .inl fun _ => 0), .inl (0, 16, .inl fun _ => 0), .inl (0, 160, .inl fun _ => 0), .inl (0, 160, .inl fun _ => 0), .inl (0, 160, .inl fun _ => 0), .inl (0, 40, .inl fun _ => 0), .inl (2, 16, .inl fun _ => 0), .inl (0, 60, .inl fun _ => 0), .inl (0, 60, .inl fun _ => 0), .inl (0, 60, .inl fun _ => 0), .inl (0, 60, .inl fun _ => 0), .inl (0, 60, .inl fun _ => 0), .inl (0, 60, .inl fun _ => 0), .inl (0, 60, .inl fun _ => 0), .inl (2, 60, .inl fun _ => 0), .inl (2, 120, .inl fun _ => 0), .inl (2, 120, .inl fun _ => 0), .inl (0, 120, .inl fun _ => 0), .inl (0, 120, .inl fun _ => 0), .inl (0, 120, .inl fun _ => 0), .inl (0, 360, .inl fun _ => 0), .inl (0, 360, .inl fun _ => 0), .inl (0, 360, .inl fun _ => 0)]) rfl rfl (Nat.le_of_ble_eq_true rfl) (Nat.le_of_ble_eq_true rfl) rfl rfl).trans ?_
  refine (step6 (a := 24) (fs' := [.int 0, .int 0, .int 0, .int 0, .int 0, .int 0, .ref (B + 18), .ref (B + 19), .ref (B + 20), .ref (B + 21), .ref (B + 22), .ref (B + 23), .ref (B + 24), .ref (B + 25), .ref (B + 26), .ref (B + 27), .ref (B + 28), .ref (B + 29), .ref (B + 30), .ref (B + 31), .ref (B + 32), .ref (B + 33), .ref (B + 34), .ref (B + 35), .ref (B + 36), .ref (B + 37), .ref (B + 38), .ref (B + 39), .ref (B + 40), .ref (B + 41), .ref (B + 42), .null, .int 0, .int 0, .int 0, .int 0, .int 0, .null]) (A' := [.inl (0, 10, .inl fun _ => 0), .inl (0, 16, .inl fun _ => 0), .inl (0, 16, .inl fun _ => 0), .inl (0, 160, .inl fun _ => 0), .inl (0, 160, .inl fun _ => 0), .inl (0, 160, .inl fun _ => 0), .inl (0, 40, .inl fun _ => 0), .inl (2, 16, .inl fun _ => 0), .inl (0, 60, .inl fun _ => 0), .inl (0, 60, .inl fun _ => 0), .inl (0, 60, .inl fun _ => 0), .inl (0, 60, .inl fun _ => 0), .inl (0, 60, .inl fun _ => 0), .inl (0, 60, .inl fun _ => 0), .inl (0, 60, .inl fun _ => 0), .inl (2, 60, .inl fun _ => 0), .inl (2, 120, .inl fun _ => 0), .inl (2, 120, .inl fun _ => 0), .inl (0, 120, .inl fun _ => 0), .inl (0, 120, .inl fun _ => 0), .inl (0, 120, .inl fun _ => 0), .inl (0, 360, .inl fun _ => 0), .inl (0, 360, .inl fun _ => 0), .inl (0, 360, .inl fun _ => 0), .inl (0, 640, .inl fun _ => 0)]) rfl rfl (Nat.le_of_ble_eq_true rfl) (Nat.le_of_ble_eq_true rfl) rfl rfl).trans ?_
  refine (step6 (a := 25) (fs' := [.int 0, .int 0, .int 0, .int 0, .int 0, .int 0, .ref (B + 18), .ref (B + 19), .ref (B + 20), .ref (B + 21), .ref (B + 22), .ref (B + 23), .ref (B + 24), .ref (B + 25), .ref (B + 26), .ref (B + 27), .ref (B + 28), .ref (B + 29), .ref (B + 30), .ref (B + 31), .ref (B + 32), .ref (B + 33), .ref (B + 34), .ref (B + 35), .ref (B + 36), .ref (B + 37), .ref (B + 38), .ref (B + 39), .ref (B + 40), .ref (B + 41), .ref (B + 42), .ref (B + 43), .int 0, .int 0, .int 0, .int 0, .int 0, .null]) (A' := [.inl (0, 10, .inl fun _ => 0), .inl (0, 16, .inl fun _ => 0), .inl (0, 16, .inl fun _ => 0), .inl (0, 160, .inl fun _ => 0), .inl (0, 160, .inl fun _ => 0), .inl (0, 160, .inl fun _ => 0), .inl (0, 40, .inl fun _ => 0), .inl (2, 16, .inl fun _ => 0), .inl (0, 60, .inl fun _ => 0), .inl (0, 60, .inl fun _ => 0), .inl (0, 60, .inl fun _ => 0), .inl (0, 60, .inl fun _ => 0), .inl (0, 60, .inl fun _ => 0), .inl (0, 60, .inl fun _ => 0), .inl (0, 60, .inl fun _ => 0), .inl (2, 60, .inl fun _ => 0), .inl (2, 120, .inl fun _ => 0), .inl (2, 120, .inl fun _ => 0), .inl (0, 120, .inl fun _ => 0), .inl (0, 120, .inl fun _ => 0), .inl (0, 120, .inl fun _ => 0), .inl (0, 360, .inl fun _ => 0), .inl (0, 360, .inl fun _ => 0), .inl (0, 360, .inl fun _ => 0), .inl (0, 640, .inl fun _ => 0), .inl (0, 640, .inl fun _ => 0)]) rfl rfl (Nat.le_of_ble_eq_true rfl) (Nat.le_of_ble_eq_true rfl) rfl rfl).trans ?_
  refine (step6 (a := 26) (fs' := [.int 0, .int 0, .int 0, .int 0, .int 0, .int 0, .ref (B + 18), .ref (B + 19), .ref (B + 20), .ref (B + 21), .ref (B + 22), .ref (B + 23), .ref (B + 24), .ref (B + 25), .ref (B + 26), .ref (B + 27), .ref (B + 28), .ref (B + 29), .ref (B + 30), .ref (B + 31), .ref (B + 32), .ref (B + 33), .ref (B + 34), .ref (B + 35), .ref (B + 36), .ref (B + 37), .ref (B + 38), .ref (B + 39), .ref (B + 40), .ref (B + 41), .ref (B + 42), .ref (B + 43), .int 0, .int 0, .int 0, .int 0, .int 0, .ref (B + 44)]) (A' := [.inl (0, 10, .inl fun _ => 0), .inl (0, 16, .inl fun _ => 0), .inl (0, 16, .inl fun _ => 0), .inl (0, 160, .inl fun _ => 0), .inl (0, 160, .inl fun _ => 0), .inl (0, 160, .inl fun _ => 0), .inl (0, 40, .inl fun _ => 0), .inl (2, 16, .inl fun _ => 0), .inl (0, 60, .inl fun _ => 0), .inl (0, 60, .inl fun _ => 0), .inl (0, 60, .inl fun _ => 0), .inl (0, 60, .inl fun _ => 0), .inl (0, 60, .inl fun _ => 0), .inl (0, 60, .inl fun _ => 0), .inl (0, 60, .inl fun _ => 0), .inl (2, 60, .inl fun _ => 0), .inl (2, 120, .inl fun _ => 0), .inl (2, 120, .inl fun _ => 0), .inl (0, 120, .inl fun _ => 0), .inl (0, 120, .inl fun _ => 0), .inl (0, 120, .inl fun _ => 0), .inl (0, 360, .inl fun _ => 0), .inl (0, 360, .inl fun _ => 0), .inl (0, 360, .inl fun _ => 0), .inl (0, 640, .inl fun _ => 0), .inl (0, 640, .inl fun _ => 0), .inl (2, 60, .inl fun _ => 0)]) rfl rfl (Nat.le_of_ble_eq_true rfl) (Nat.le_of_ble_eq_true rfl) rfl rfl).trans ?_
  rfl
end START
