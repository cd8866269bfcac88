/-! from the law's entry to the functions: what the Statement gives of the start -/
def lawGoal : Prop := ∀ (t0 mi L : Nat) (xs : Nat → Int32) (B : Nat), t0 < B → L ≤ 3584 → ∃ h : AH, f_L_law t0 mi L xs (B, 0, fun _ => none) = some (.inl 1, h) ∧ h.1 ≤ B + 601024 ∧ h.2.1 ≤ 7293034
theorem refOf {args : Array Value} {s : State} {t : Term} {C : String} (h : (Cond.exactly t C).before args s = true) : ∃ a : Nat, t.eval args s none [] s = some (.ref a) := by
  obtain ⟨a, -, -, -, h1, -⟩ := Cond.exactly_spec h
  exact ⟨a, h1⟩
theorem zeroLen {args : Array Value} {s : State} {t : Term} (h : (Cond.eq (.length t) (.int 0)).before args s = true) : (Term.length t).eval args s none [] s = some (.int (Int32.ofNat 0)) := by
  cases hv : (Term.length t).eval args s none [] s with
  | none => simp [Cond.before, Cond.holds, Cond.value, hv] at h
  | some w =>
    have h2 : (Term.int 0).eval args s none [] s = some (.int 0) := rfl
    cases w with
    | int z =>
      rw [Cond.before, Cond.holds, Cond.eq_ints hv h2] at h
      simp at h
      rw [h]
      rfl
    | _ => simp [Cond.before, Cond.holds, Cond.value, hv, h2] at h
abbrev edT : Term := .static "java/util/ArrayList" "DEFAULTCAPACITY_EMPTY_ELEMENTDATA" "[Ljava/lang/Object;"
set_option maxHeartbeats 4000000 in
set_option maxRecDepth 100000 in
theorem start_world {s : State} {b L : Nat} {xs : Nat → Int32} (hts : ∀ w ∈ lw_tbl, w.before #[Value.ref b] s = true) (hX : va_X b L xs s s.heap) (hbl : b < s.heap.size) (hgv : (Jvm.Cond.and given_1 narrow_1).before #[Value.ref b] s = true) : ∃ g : GX, kn g s ∧ old g s s.heap ∧ gB g = s.heap.size ∧ gb g = b ∧ gL g = L ∧ gxs g = xs ∧ gt0 g < s.heap.size := by
  have hs := flat_of_before _ hgv
  have hT : ∀ w ∈ TT, w.before #[Value.ref b] s = true := fun w hw => hts w (List.mem_filter.mp hw).1
  obtain ⟨c0, i0, k0⟩ := u_known (C := RJx4a65c) (T := TJx4a65c) (N := 3) (n := 3) hT cl0.2.1 (hT (.instantiable RJx4a65c 3) (by decide +kernel))
  obtain ⟨c1, i1, k1⟩ := u_known (C := RX0) (T := TX0) (N := 2) (n := 2) hT cl1.2.1 (hT (.instantiable RX0 2) (by decide +kernel))
  obtain ⟨c2, i2, k2⟩ := u_known (C := RX1) (T := TX1) (N := 2) (n := 2) hT cl2.2.1 (hT (.instantiable RX1 2) (by decide +kernel))
  obtain ⟨c3, i3, k3⟩ := u_known (C := RX2) (T := TX2) (N := 5) (n := 5) hT cl3.2.1 (hT (.instantiable RX2 5) (by decide +kernel))
  obtain ⟨c4, i4, k4⟩ := u_known (C := RX3) (T := TX3) (N := 6) (n := 6) hT cl4.2.1 (hT (.instantiable RX3 6) (by decide +kernel))
  obtain ⟨c5, i5, k5⟩ := u_known (C := RX4) (T := TX4) (N := 13) (n := 13) hT cl5.2.1 (hT (.instantiable RX4 13) (by decide +kernel))
  obtain ⟨c6, i6, k6⟩ := u_known (C := RX5) (T := TX5) (N := 5) (n := 5) hT cl6.2.1 (hT (.instantiable RX5 5) (by decide +kernel))
  obtain ⟨c7, i7, k7⟩ := u_known (C := RX6) (T := TX6) (N := 38) (n := 38) hT cl7.2.1 (hT (.instantiable RX6 38) (by decide +kernel))
  obtain ⟨aI, kI, mI, fI, gI', hI'⟩ := Cond.arrayClass_spec (hts (.arrayClass .int) (by decide +kernel))
  obtain ⟨aJ, kJ, mJ, fJ, gJ', hJ'⟩ := Cond.arrayClass_spec (hts (.arrayClass .long) (by decide +kernel))
  obtain ⟨aZ, kZ, mZ, fZ, gZ', hZ'⟩ := Cond.arrayClass_spec (hts (.arrayClass .boolean) (by decide +kernel))
  have wO : (Cond.arrayOver (.object "java/lang/Object")).before #[Value.ref b] s = true := hts _ (by decide +kernel)
  have wA : (Cond.arrayOver (.array .int)).before #[Value.ref b] s = true := hts _ (by decide +kernel)
  obtain ⟨mO, aO, kO, f1, -, f2, f3, f4⟩ := Cond.arrayOver_spec wO
  obtain ⟨mA, aA, kA, e1, -, e2, e3, e4⟩ := Jvm.Stand.arrayOver_specB wA
  obtain ⟨mi, hmi⟩ := va_Mi.of (s := s) (C := "[Ljava/lang/Object;") (hs _ (by decide +kernel))
  have hnc : va_Nc "java/lang/IllegalArgumentException" "java/util/NoSuchElementException" s := va_Nc.of (hs _ (by decide +kernel))
  have hA : ∀ a : Nat, a < s.heap.size → ¬ (fun q : Nat => s.heap.size ≤ q) a := fun a h => Nat.not_le.mpr h
  obtain ⟨t0, ht0, hTt⟩ := va_Tof (tm := edT) (ty := .object "java/lang/Object") (N := 0) (f := fun _ => .null) (A := fun q : Nat => s.heap.size ≤ q) (by decide) (hs (.arrayOf edT (.object "java/lang/Object")) (by decide +kernel)) (zeroLen (hs (.eq (.length edT) (.int 0)) (by decide +kernel))) (fun j hj => absurd hj (Nat.not_lt_zero j)) hA
  have hZt := va_Zref (A := fun q : Nat => s.heap.size ≤ q) (hts (.laysStatic "java/util/ArrayList" "DEFAULTCAPACITY_EMPTY_ELEMENTDATA" "[Ljava/lang/Object;") (by decide +kernel)) (hts (.initialized "java/util/ArrayList") (by decide +kernel)) ht0 hA
  have hU := vx_Zqof (A := fun q : Nat => s.heap.size ≤ q) (hts (.laysStatic Bundle.tN "UNASSIGNED_STACK" Bundle.steD) (by decide +kernel)) (hts (.initialized Bundle.tN) (by decide +kernel)) (hs (.isRef (.static Bundle.tN "UNASSIGNED_STACK" Bundle.steD)) (by decide +kernel)) hA
  have hN := vx_Zqof (A := fun q : Nat => s.heap.size ≤ q) (hts (.laysStatic Bundle.tN "SUPPRESSED_SENTINEL" Bundle.listD) (by decide +kernel)) (hts (.initialized Bundle.tN) (by decide +kernel)) (hs (.isRef (.static Bundle.tN "SUPPRESSED_SENTINEL" Bundle.listD)) (by decide +kernel)) hA
  have hstr : ∀ (k : Nat) (q : Nat × String), strs[k]? = some q → ∃ a, vk_R RX5 q.1 q.2 a s := by
    intro k q hq
    have hm : q ∈ strs := List.mem_of_getElem? hq
    have h1 : ∀ q ∈ strs, Cond.stringRef RX5 q.1 q.2 ∈ lw_tbl := by decide +kernel
    have h2 : ∀ q ∈ strs, Cond.exactly (.string RX5 q.1) "java/lang/String" ∈ flatC (Jvm.Cond.and given_1 narrow_1) := by decide +kernel
    obtain ⟨a, ha⟩ := refOf (hs _ (h2 q hm))
    exact ⟨a, vk_R.of (hts _ (h1 q hm)) ha⟩
  have hsel : ∃ sa : Nat → Nat, ∀ (k : Nat) (q : Nat × String), strs[k]? = some q → vk_R RX5 q.1 q.2 (sa k) s := by
    classical
    refine ⟨fun k => if h : ∃ a q, strs[k]? = some q ∧ vk_R RX5 q.1 q.2 a s then h.choose else 0, fun k q hq => ?_⟩
    have hh : ∃ a q, strs[k]? = some q ∧ vk_R RX5 q.1 q.2 a s := by
      obtain ⟨a, ha⟩ := hstr k q hq
      exact ⟨a, q, hq, ha⟩
    dsimp only
    rw [dif_pos hh]
    obtain ⟨q', e, hv⟩ := hh.choose_spec
    rw [hq] at e
    cases e
    exact hv
  obtain ⟨sa, hsa⟩ := hsel
  refine ⟨((fun k => if k = 0 then c0 else if k = 1 then c1 else if k = 2 then c2 else if k = 3 then c3 else if k = 4 then c4 else if k = 5 then c5 else if k = 6 then c6 else c7, fun k => if k = 0 then i0 else if k = 1 then i1 else if k = 2 then i2 else if k = 3 then i3 else if k = 4 then i4 else if k = 5 then i5 else if k = 6 then i6 else i7), fun k => if k = 0 then aI else if k = 1 then aJ else if k = 2 then aZ else if k = 3 then aO else aA, s.heap.size, b, L, xs, t0, sa, mi), ⟨⟨?_, ?_⟩, ?_, hsa, va_AO.of wO, va_AOA.of wA, hmi, hnc⟩, ⟨hX, hbl, hTt, hZt, hU, hN⟩, rfl, rfl, rfl, rfl, ?_⟩
  · intro c q hq
    match c, hq with
    | 0, hq => cases hq; exact k0
    | 1, hq => cases hq; exact k1
    | 2, hq => cases hq; exact k2
    | 3, hq => cases hq; exact k3
    | 4, hq => cases hq; exact k4
    | 5, hq => cases hq; exact k5
    | 6, hq => cases hq; exact k6
    | 7, hq => cases hq; exact k7
    | c + 8, hq => simp at hq
  · intro k q hq
    match k, hq with
    | 0, hq => cases hq; exact ⟨fun n z => ⟨fun k h => (by cases h), kI, gI', mI, hI'⟩, fI⟩
    | 1, hq => cases hq; exact ⟨fun n z => ⟨fun k h => (by cases h), kJ, gJ', mJ, hJ'⟩, fJ⟩
    | 2, hq => cases hq; exact ⟨fun n z => ⟨fun k h => (by cases h), kZ, gZ', mZ, hZ'⟩, fZ⟩
    | 3, hq => cases hq; exact ⟨fun n z => ⟨fun k h => (by cases h), kO, f2, mO, f3⟩, kO, mO, f2, f3, f1, f4⟩
    | 4, hq => cases hq; exact ⟨fun n z => ⟨fun k h => (by cases h), kA, e2, mA, e3⟩, e4⟩
    | k + 5, hq => simp at hq
  · intro w hw
    have hi := (List.mem_filter.mp hw).2
    refine va_Nw.of ?_ (hts w (List.mem_filter.mp hw).1)
    cases w <;> first | rfl | (simp only [isXT] at hi; cases hi)
  · have := hTt.out
    exact Nat.not_le.mp this
