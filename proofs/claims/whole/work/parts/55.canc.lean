/-! cancel -/
def fstOn (σ : SG) (i t : Nat) : Nat → Nat → Nat
  | 0, _ => 0
  | n + 1, j => if σ 10 i (3 * j) = t then j + 1 else fstOn σ i t n (j + 1)
def gvF (σ : SG) (i t : Nat) : Nat := fstOn σ i t (σ 9 i 2) 0
noncomputable def offL (t : Nat) : Nat → Nat → Nat → SG → Nat × SG
  | 0, _, c, σ => (c, σ)
  | n + 1, b, c, σ => if gvF σ (cur σ b) t = 0 then offL t n (b + 1) c σ else offL t n (b + 1) (c + 1) (giveR σ (cur σ b) (gvF σ (cur σ b) t - 1))
noncomputable def anew (σ : SG) (i : Nat) : SG := match leadF σ i (wtS σ i) (max (thereS σ i) (σ 0 0 0)) with
  | some σ' => σ'
  | none => us (us σ 9 i 3 (wtS σ i + 1)) 9 i 4 (max (thereS σ i) (σ 0 0 0))
noncomputable def newL (G : Nat → Bool) : Nat → Nat → SG → SG
  | 0, _, σ => σ
  | n + 1, b, σ => newL G n (b + 1) (if G b = true then anew σ (cur σ b) else σ)
/-- the boxes that have a leg on t -/
def givG (σ : SG) (t b : Nat) : Bool := decide (gvF σ (cur σ b) t ≠ 0)
def stS (P : Nat → Bool) (n : Nat) (τ : SG) : SG := fun x y q => if x = 9 ∧ q = 3 ∧ P y = true then wtS τ y + 1 else if x = 9 ∧ q = 4 ∧ P y = true then max (thereS τ y) n else τ x y q
def E34 (σ τ : SG) : Prop := ∀ x y q, ¬ (x = 9 ∧ (q = 3 ∨ q = 4)) → σ x y q = τ x y q
section CANC
variable {σ κ τ μ : SG} {z : BB} {w : PS}
theorem fstOn_le {i t : Nat} : ∀ (n j : Nat), fstOn σ i t n j = 0 ∨ (j < fstOn σ i t n j ∧ fstOn σ i t n j ≤ j + n)
  | 0, _ => Or.inl rfl
  | n + 1, j => by
    unfold fstOn
    split
    · omega
    · have := fstOn_le (i := i) (t := t) n (j + 1)
      omega
theorem gv_le {i t : Nat} : gvF σ i t ≤ σ 9 i 2 := by
  have := fstOn_le (σ := σ) (i := i) (t := t) (σ 9 i 2) 0
  unfold gvF
  omega
theorem gv_cong {i t : Nat} (h9 : σ 9 i 2 = τ 9 i 2) (h10 : ∀ q, σ 10 i q = τ 10 i q) : gvF σ i t = gvF τ i t := by
  unfold gvF
  rw [h9]
  have : ∀ n j, fstOn σ i t n j = fstOn τ i t n j := by
    intro n
    induction n with
    | zero => intro j; rfl
    | succ n ih => intro j; unfold fstOn; rw [h10, ih]
  exact this _ _
theorem L_flo (hw : Wd σ κ τ μ z w) {i t : Nat} (hi : okW σ i) (ht : t < 2 ^ 31) (hm : σ 9 i 2 ≤ 3) (hlb : ∀ j, σ 10 i j ≤ 16) : ∀ (n f j : Nat), j + n = σ 9 i 2 → n ≤ f → Rx (p_X4_firstLegOn_L2 i (nI t) (prt (-1)) (f + 1) (nI j)) w (fun v w' => v = m1 (fstOn σ i t n j) ∧ w' = w) NE := by
  intro n
  induction n with
  | zero =>
    intro f j h1 h2
    rw [p_X4_firstLegOn_L2]
    refine Rx_rd (g_many hw hi) ?_
    exact Rx_pos (by rw [nI_leI (by omega) (by omega)]; omega) (Rx_rt ⟨rfl, rfl⟩)
  | succ n ih =>
    intro f j h1 h2
    obtain ⟨f', rfl⟩ : ∃ f', f = f' + 1 := ⟨f - 1, by omega⟩
    have := hlb (3 * j)
    rw [p_X4_firstLegOn_L2]
    refine Rx_rd (g_many hw hi) ?_
    refine Rx_neg (by rw [nI_leI (by omega) (by omega)]; omega) ?_
    refine Rx_assoc ?_
    refine Rx_rd (g_chk5 hw hi) ?_
    refine Rx_rd (r_legNumber (c := 0) hw hi (by omega)) ?_
    rw [Nat.add_zero]
    refine Rx_if (fun h => ?_) (fun h => ?_)
    · simp (disch := omega) only [nL_0, nL_1, nL_2, nL_3, nL_4, nL_5, nL_6, nL_7, nL_10, nL_16, nL_31, nL_40, nL_60, nL_120, nL_160, nL_1439, nL_1000000, nL_10000000, nL_268435456, nI_ltI, nI_leI, nI_eq, Int32.not_lt, Int32.not_le, Nat.not_lt, Nat.not_le, m1_eqn, m1_eqm, nI_nem, ge_iff_le, gt_iff_lt] at h
      refine Rx_rt ⟨?_, rfl⟩
      unfold fstOn
      rw [if_pos h, m1_s]
    · simp (disch := omega) only [nL_0, nL_1, nL_2, nL_3, nL_4, nL_5, nL_6, nL_7, nL_10, nL_16, nL_31, nL_40, nL_60, nL_120, nL_160, nL_1439, nL_1000000, nL_10000000, nL_268435456, nI_ltI, nI_leI, nI_eq, Int32.not_lt, Int32.not_le, Nat.not_lt, Nat.not_le, m1_eqn, m1_eqm, nI_nem, ge_iff_le, gt_iff_lt] at h
      unfold fstOn
      rw [if_neg h, nI_1]
      exact ih f' (j + 1) (by omega) (by omega)
theorem q_flo (wf : WF σ) (hw : Wd σ κ τ μ z w) {i t : Nat} (hi : okW σ i) (ht : t < 2 ^ 31) : p_X4_firstLegOn i (nI t) w = some (.inl (m1 (gvF σ i t)), w) := by
  refine Rx_un ?_
  unfold p_X4_firstLegOn
  have := (wf.way i).2.1
  exact L_flo (f := 4095) hw hi ht this (wf.legb i) (σ 9 i 2) 0 (by omega) (by omega)
theorem L_Mfo (hw : Wd σ κ τ μ z w) {i t : Nat} (hi : i < 120) (ht : t < 2 ^ 31) (hm : τ 9 i 2 ≤ 3) (hlb : ∀ j, τ 10 i j ≤ 16) : ∀ (n f j : Nat), j + n = τ 9 i 2 → n ≤ f → Rx (p_X6_firstOn_L9 (nI t) (nI i) (prt (-1)) (f + 1) (nI j)) w (fun v w' => v = m1 (fstOn τ i t n j) ∧ w' = w) NE := by
  intro n
  induction n with
  | zero =>
    intro f j h1 h2
    rw [p_X6_firstOn_L9]
    refine Rx_rd (g_chk7 hw) ?_
    refine Rx_rd (h_many hw hi) ?_
    exact Rx_pos (by rw [nI_leI (by omega) (by omega)]; omega) (Rx_rt ⟨rfl, rfl⟩)
  | succ n ih =>
    intro f j h1 h2
    obtain ⟨f', rfl⟩ : ∃ f', f = f' + 1 := ⟨f - 1, by omega⟩
    have := hlb (3 * j)
    rw [p_X6_firstOn_L9]
    refine Rx_rd (g_chk7 hw) ?_
    refine Rx_rd (h_many hw hi) ?_
    refine Rx_neg (by rw [nI_leI (by omega) (by omega)]; omega) ?_
    refine Rx_rd (g_chk7 hw) ?_
    refine Rx_rd (r_legAt hw) ?_
    refine Rx_rd (h_legT hw hi (by omega)) ?_
    refine Rx_if (fun h => ?_) (fun h => ?_)
    · simp (disch := omega) only [nL_0, nL_1, nL_2, nL_3, nL_4, nL_5, nL_6, nL_7, nL_10, nL_16, nL_31, nL_40, nL_60, nL_120, nL_160, nL_1439, nL_1000000, nL_10000000, nL_268435456, nI_ltI, nI_leI, nI_eq, Int32.not_lt, Int32.not_le, Nat.not_lt, Nat.not_le, m1_eqn, m1_eqm, nI_nem, ge_iff_le, gt_iff_lt] at h
      refine Rx_rt ⟨?_, rfl⟩
      unfold fstOn
      rw [if_pos h, m1_s]
    · simp (disch := omega) only [nL_0, nL_1, nL_2, nL_3, nL_4, nL_5, nL_6, nL_7, nL_10, nL_16, nL_31, nL_40, nL_60, nL_120, nL_160, nL_1439, nL_1000000, nL_10000000, nL_268435456, nI_ltI, nI_leI, nI_eq, Int32.not_lt, Int32.not_le, Nat.not_lt, Nat.not_le, m1_eqn, m1_eqm, nI_nem, ge_iff_le, gt_iff_lt] at h
      unfold fstOn
      rw [if_neg h, nI_1]
      exact ih f' (j + 1) (by omega) (by omega)
theorem q_Mfo (wt : WF τ) (hw : Wd σ κ τ μ z w) {b t : Nat} (hb : b < 60) (ht : t < 2 ^ 31) : p_X6_firstOn (nI b) (nI t) w = some (.inl (m1 (gvF τ (cur τ b) t)), w) := by
  refine Rx_un ?_
  unfold p_X6_firstOn
  have hi := cur_lt wt hb
  refine Rx_assoc ?_
  refine Rx_rd (g_chk7 hw) ?_
  refine Rx_rd (r_Mway hw wt hb) ?_
  have := (wt.way (cur τ b)).2.1
  exact L_Mfo (f := 4095) hw hi ht this (wt.legb _) (τ 9 (cur τ b) 2) 0 (by omega) (by omega)
theorem E34.l (h : E34 σ τ) : SameL σ τ := fun x y q h9 _ => h x y q (fun e => h9 e.1)
theorem SameL.bs (h : SameL σ τ) (to l s m : Nat) : bestS σ to l s m = bestS τ to l s m := by
  have e : isBest σ to l s m = isBest τ to l s m := funext fun T => funext fun N => h.be to l s m T N
  exact congrArg (fun (P : Nat → Nat → Prop) => @dite (Option (Nat × Nat)) (∃ x : Nat × Nat, P x.1 x.2) (Classical.propDecidable _) (fun h => some h.choose) (fun _ => none)) e
theorem SameL.ls (h : SameL σ τ) (to T : Nat) : ∀ (N s m : Nat), legsS σ to T N s m = legsS τ to T N s m
  | 0, _, _ => rfl
  | N + 1, s, m => by
    unfold legsS
    rw [h.ok]
    cases firstL (OkL τ to T N s m) with
    | none => rfl
    | some x =>
      show x :: legsS σ to T N (σ 5 x.1 x.2.2) (srt σ x.1 x.2.2) = x :: legsS τ to T N (τ 5 x.1 x.2.2) (srt τ x.1 x.2.2)
      rw [h.ls to T N, h 5 _ _ (by decide) (by decide), h.sr]
theorem E34.lod (h : E34 σ τ) (t on off : Nat) (d : Int32) : E34 (lodS σ t on off d) (lodS τ t on off d) := by
  intro x y q hn
  unfold lodS
  rw [h x y q hn]
theorem E34.us (h : E34 σ τ) (a b c v : Nat) : E34 (us σ a b c v) (us τ a b c v) := by
  intro x y q hn
  rw [us_at, us_at, h x y q hn]
theorem E34.lg (h : E34 σ τ) (i : Nat) (x : LG) : E34 (lgS σ i x) (lgS τ i x) := by
  have e : σ 9 i 2 = τ 9 i 2 := h 9 i 2 (by omega)
  unfold lgS
  rw [e]
  exact (((h.us _ _ _ _).us _ _ _ _).us _ _ _ _).us _ _ _ _
theorem E34.all (i : Nat) : ∀ (L : List LG) {σ τ : SG}, E34 σ τ → E34 (addAll σ i L) (addAll τ i L)
  | [], _, _, h => h
  | x :: l, σ, τ, h => E34.all i l ((h.lod _ _ _ _).lg i x)
theorem all_34 {i y q : Nat} (hq : q = 3 ∨ q = 4) : ∀ (L : List LG) (σ : SG), addAll σ i L 9 y q = σ 9 y q
  | [], _ => rfl
  | x :: l, σ => by
    show addAll (lgS (lodS σ x.1 x.2.1 x.2.2 1) i x) i l 9 y q = _
    rw [all_34 hq l]
    simp only [lgS, us_at]
    rw [if_neg (fun e => by omega), if_neg (fun e => by omega), if_neg (fun e => by omega), if_neg (fun e => by omega), lod_ne (by decide)]
theorem E34.lodr {i : Nat} {d : Int32} : ∀ (n j : Nat) {σ τ : SG}, E34 σ τ → E34 (lodR σ i d j n) (lodR τ i d j n)
  | 0, _, _, _, h => h
  | n + 1, j, σ, τ, h => by
    have e : ∀ q, σ 10 i q = τ 10 i q := fun q => h 10 i q (by omega)
    show E34 (lodR (lodS σ (σ 10 i (3 * j)) (σ 10 i (3 * j + 1)) (σ 10 i (3 * j + 2)) d) i d (j + 1) n) (lodR (lodS τ (τ 10 i (3 * j)) (τ 10 i (3 * j + 1)) (τ 10 i (3 * j + 2)) d) i d (j + 1) n)
    rw [e, e, e]
    exact E34.lodr n (j + 1) (h.lod _ _ _ _)
theorem E34.give (h : E34 σ τ) (i j : Nat) : E34 (giveR σ i j) (giveR τ i j) := by
  have e : σ 9 i 2 = τ 9 i 2 := h 9 i 2 (by omega)
  unfold giveR
  rw [e]
  exact ((E34.lodr _ _ h).us _ _ _ _).us _ _ _ _
theorem give_34 {i j y q : Nat} (hq : q = 3 ∨ q = 4) : giveR σ i j 9 y q = σ 9 y q := by
  unfold giveR
  rw [us_at, us_at, if_neg (fun e => by omega), if_neg (fun e => by omega), lodR_ne _ _ _ (by decide)]
theorem E34.way (h : E34 σ τ) (y : Nat) : wtS σ y = wtS τ y ∧ thereS σ y = thereS τ y ∧ toS σ y = toS τ y := by
  have e2 : σ 9 y 2 = τ 9 y 2 := h 9 y 2 (by omega)
  have e10 : ∀ q, σ 10 y q = τ 10 y q := fun q => h 10 y q (by omega)
  have e5 : ∀ a b, σ 5 a b = τ 5 a b := fun a b => h 5 a b (by omega)
  have e8 : ∀ a b, σ 8 a b = τ 8 a b := fun a b => h 8 a b (by omega)
  have e1 : ∀ a b, σ 1 a b = τ 1 a b := fun a b => h 1 a b (by omega)
  have e6 : ∀ a b, σ 6 a b = τ 6 a b := fun a b => h 6 a b (by omega)
  unfold wtS thereS begS srt fromS readyS wfromS toS
  simp only [e2, e10, e5, e8, e1, e6]
  exact ⟨trivial, trivial, trivial⟩
theorem st_34 {P : Nat → Bool} {n : Nat} : E34 (stS P n τ) τ := by
  intro x y q hn
  unfold stS
  rw [if_neg (fun e => hn ⟨e.1, Or.inl e.2.1⟩), if_neg (fun e => hn ⟨e.1, Or.inr e.2.1⟩)]
theorem st_at3 {P : Nat → Bool} {n y : Nat} : stS P n τ 9 y 3 = if P y = true then wtS τ y + 1 else τ 9 y 3 := by
  unfold stS
  by_cases h : P y = true
  · rw [if_pos ⟨rfl, rfl, h⟩, if_pos h]
  · rw [if_neg (fun e => h e.2.2), if_neg (fun e => by omega), if_neg h]
theorem st_at4 {P : Nat → Bool} {n y : Nat} : stS P n τ 9 y 4 = if P y = true then max (thereS τ y) n else τ 9 y 4 := by
  unfold stS
  by_cases h : P y = true
  · rw [if_neg (fun e => by omega), if_pos ⟨rfl, rfl, h⟩, if_pos h]
  · rw [if_neg (fun e => by omega), if_neg (fun e => h e.2.2), if_neg h]
/-- two stores are the same if they are so outside of 9, 3 and 4, and there -/
theorem ext34 (h : E34 σ τ) (h3 : ∀ y, σ 9 y 3 = τ 9 y 3) (h4 : ∀ y, σ 9 y 4 = τ 9 y 4) : σ = τ := by
  funext x y q
  by_cases e : x = 9 ∧ (q = 3 ∨ q = 4)
  · obtain ⟨rfl, rfl | rfl⟩ := e
    · exact h3 y
    · exact h4 y
  · exact h x y q e
theorem E34.trans {ρ : SG} (h : E34 σ τ) (h' : E34 τ ρ) : E34 σ ρ := fun x y q hn => (h x y q hn).trans (h' x y q hn)
theorem E34.symm (h : E34 σ τ) : E34 τ σ := fun x y q hn => (h x y q hn).symm
theorem wtS_x {i y : Nat} {σ' : SG} (hx : SameX i σ' σ) (hy : y ≠ i) : wtS σ' y = wtS σ y ∧ thereS σ' y = thereS σ y := by
  have e9 : ∀ q, σ' 9 y q = σ 9 y q := fun q => hx 9 y q (by decide) (fun e => hy e.2)
  have e10 : ∀ q, σ' 10 y q = σ 10 y q := fun q => hx 10 y q (by decide) (fun e => hy e.2)
  have e5 : ∀ y q, σ' 5 y q = σ 5 y q := fun y q => hx.k (x := 5) _ _ (by decide) (by decide) (by decide)
  have ew := hx.way y
  unfold wtS thereS
  simp only [e9, e10, e5, hx.sr, ew.1, ew.2.2.2.2.2.2]
  exact ⟨trivial, trivial⟩
/-- the class's step of giving up -/
theorem st_give {P P' : Nat → Bool} {n i j : Nat} (hP : ∀ y, P' y = (P y || decide (y = i))) (hi : P i = false) : standS (giveR (stS P n τ) i j) i (wtS (giveR (stS P n τ) i j) i) (max (thereS (giveR (stS P n τ) i j) i) n) = stS P' n (giveR τ i j) := by
  have e0 : E34 (giveR (stS P n τ) i j) (giveR τ i j) := st_34.give i j
  have ew := e0.way i
  rw [ew.1, ew.2.1]
  have g5 : giveR τ i j 9 i 5 = 0 := by simp [giveR, us]
  refine ext34 ?_ ?_ ?_
  · intro x y q hn
    rw [st_34 x y q hn]
    unfold standS
    rw [us_at, us_at, us_at, if_neg (fun e => hn ⟨e.1, Or.inr e.2.2⟩), if_neg (fun e => hn ⟨e.1, Or.inl e.2.2⟩), e0 x y q hn]
    split
    · rename_i e
      obtain ⟨rfl, rfl, rfl⟩ := e
      exact g5.symm
    · rfl
  · intro y
    rw [st_at3, hP]
    by_cases q : y = i
    · subst q
      simp [standS, us]
    · have := wtS_x (give_x (σ := τ) (i := i) (leg := j)) q
      have e1 : standS (giveR (stS P n τ) i j) i (wtS (giveR τ i j) i) (max (thereS (giveR τ i j) i) n) 9 y 3 = stS P n τ 9 y 3 := by
        rw [stand_x 9 y 3 (by decide) (fun e => q e.2), give_34 (Or.inl rfl)]
      rw [e1, st_at3, this.1, give_34 (Or.inl rfl)]
      simp [q]
  · intro y
    rw [st_at4, hP]
    by_cases q : y = i
    · subst q
      simp [standS, us]
    · have := wtS_x (give_x (σ := τ) (i := i) (leg := j)) q
      have e1 : standS (giveR (stS P n τ) i j) i (wtS (giveR τ i j) i) (max (thereS (giveR τ i j) i) n) 9 y 4 = stS P n τ 9 y 4 := by
        rw [stand_x 9 y 4 (by decide) (fun e => q e.2), give_34 (Or.inr rfl)]
      rw [e1, st_at4, this.2, give_34 (Or.inr rfl)]
      simp [q]
/-- the class's step of leading anew -/
theorem st_lead {P P' : Nat → Bool} {n i s m : Nat} (hP : ∀ y, P' y = (P y && decide (y ≠ i))) : leadF (stS P n τ) i s m = (leadF τ i s m).map (stS P' n) := by
  have e0 : E34 (stS P n τ) τ := st_34
  have el := e0.l
  have e2 : stS P n τ 9 i 2 = τ 9 i 2 := e0 9 i 2 (by omega)
  unfold leadF
  rw [(e0.way i).2.2, e2, el.bs]
  cases hb : bestS τ (toS τ i) (3 - τ 9 i 2) s m with
  | none => rfl
  | some x =>
    obtain ⟨T, N⟩ := x
    show some (endS (addAll (stS P n τ) i (legsS (stS P n τ) (toS τ i) T N s m)) i T) = some (stS P' n (endS (addAll τ i (legsS τ (toS τ i) T N s m)) i T))
    rw [el.ls]
    refine congrArg some ?_
    have ea := E34.all i (legsS τ (toS τ i) T N s m) e0
    have ex : SameX i (endS (addAll τ i (legsS τ (toS τ i) T N s m)) i T) τ := fun a b c h7 h => by rw [end_x a b c h7 h]; exact all_x _ _ a b c h7 h
    refine ext34 ?_ ?_ ?_
    · intro x y q hn
      rw [st_34 x y q hn]
      unfold endS
      rw [us_at, us_at, us_at, us_at, us_at, us_at, us_at, us_at, ea x y q hn]
    · intro y
      rw [st_at3, hP]
      by_cases q : y = i
      · subst q
        simp [endS, us]
      · rw [end_x 9 y 3 (by decide) (fun e => q e.2), all_34 (Or.inl rfl), st_at3, (wtS_x ex q).1, end_x 9 y 3 (by decide) (fun e => q e.2), all_34 (Or.inl rfl)]
        simp [q]
    · intro y
      rw [st_at4, hP]
      by_cases q : y = i
      · subst q
        simp [endS, us]
      · rw [end_x 9 y 4 (by decide) (fun e => q e.2), all_34 (Or.inr rfl), st_at4, (wtS_x ex q).2, end_x 9 y 4 (by decide) (fun e => q e.2), all_34 (Or.inr rfl)]
        simp [q]
theorem st_fail {P P' : Nat → Bool} {n i : Nat} (hP : ∀ y, P' y = (P y && decide (y ≠ i))) (hi : P i = true) : stS P n τ = stS P' n (us (us τ 9 i 3 (wtS τ i + 1)) 9 i 4 (max (thereS τ i) n)) := by
  have e1 : E34 (us (us τ 9 i 3 (wtS τ i + 1)) 9 i 4 (max (thereS τ i) n)) τ := by
    intro x y q hn
    rw [us_at, us_at, if_neg (fun e => hn ⟨e.1, Or.inr e.2.2⟩), if_neg (fun e => hn ⟨e.1, Or.inl e.2.2⟩)]
  refine ext34 (st_34.trans (E34.symm (st_34.trans e1))) ?_ ?_
  · intro y
    rw [st_at3, st_at3, hP, (e1.way y).1]
    by_cases q : y = i
    · subst q
      simp [us, hi]
    · simp [q, us]
  · intro y
    rw [st_at4, st_at4, hP, (e1.way y).2.1]
    by_cases q : y = i
    · subst q
      simp [us, hi]
    · simp [q, us]
theorem st_none {P : Nat → Bool} {n : Nat} (h : ∀ y, P y = false) : stS P n τ = τ := by
  refine ext34 st_34 (fun y => ?_) (fun y => ?_)
  · rw [st_at3, h]; rfl
  · rw [st_at4, h]; rfl
/-- what holds while boxes give up: those below b have -/
def Gv (τ0 : SG) (t y : Nat) : Prop := gvF τ0 (cur τ0 (y / 2)) t ≠ 0 ∧ y = cur τ0 (y / 2)
def P1 (τ0 : SG) (t b : Nat) (τ : SG) : Prop := WF τ ∧ HN τ ∧ (∀ y, ¬ (y / 2 < b ∧ Gv τ0 t y) → SNw τ y) ∧ (∀ y, y / 2 < b → Gv τ0 t y → τ 9 y 5 = 0 ∧ wtS τ y ≠ toS τ y) ∧ (∀ y q, b ≤ y / 2 → τ 9 y q = τ0 9 y q ∧ τ 10 y q = τ0 10 y q) ∧ (∀ x y q, x ≠ 7 → x ≠ 9 → x ≠ 10 → τ x y q = τ0 x y q)
theorem cur_c (h : ∀ x y q, x ≠ 7 → x ≠ 9 → x ≠ 10 → σ x y q = τ x y q) (b : Nat) : cur σ b = cur τ b := by
  unfold cur
  rw [h 8 _ _ (by decide) (by decide) (by decide)]
theorem P1_gv {τ0 : SG} {t b : Nat} (h : P1 τ0 t b τ) : gvF τ (cur τ b) t = gvF τ0 (cur τ0 b) t := by
  have e := cur_c h.2.2.2.2.2 b
  have hb := (cur_mod (σ := τ0) (b := b)).2.2
  rw [e]
  refine gv_cong ?_ (fun q => ?_)
  · exact (h.2.2.2.2.1 _ 2 (by rw [hb]; exact Nat.le_refl _)).1
  · exact (h.2.2.2.2.1 _ q (by rw [hb]; exact Nat.le_refl _)).2
theorem P1_no {τ0 : SG} {t b : Nat} (h : P1 τ0 t b τ) (hg : gvF τ (cur τ b) t = 0) : P1 τ0 t (b + 1) τ := by
  rw [P1_gv h] at hg
  have hno : ∀ y, y / 2 = b → ¬ Gv τ0 t y := fun y hy hG => hG.1 (by rw [hy]; exact hg)
  refine ⟨h.1, h.2.1, fun y hy => h.2.2.1 y (fun q => hy ⟨by omega, q.2⟩), fun y hy hG => h.2.2.2.1 y ?_ hG, fun y q hy => h.2.2.2.2.1 y q (by omega), h.2.2.2.2.2⟩
  by_cases q : y / 2 = b
  · exact absurd hG (hno y q)
  · omega
theorem P1_yes {τ0 : SG} {t b : Nat} (h : P1 τ0 t b τ) (hb : b < τ 0 3 0) (hg : gvF τ (cur τ b) t ≠ 0) : P1 τ0 t (b + 1) (giveR τ (cur τ b) (gvF τ (cur τ b) t - 1)) := by
  have hle := gv_le (σ := τ) (i := cur τ b) (t := t)
  have hi := cur_ok h.1 hb
  have hx := give_x (σ := τ) (i := cur τ b) (leg := gvF τ (cur τ b) t - 1)
  have e0 := cur_c h.2.2.2.2.2 b
  have hb2 := (cur_mod (σ := τ) (b := b)).2.2
  have hway := h.1.way (cur τ b)
  have hg0 : gvF τ0 (cur τ0 b) t ≠ 0 := by rw [← P1_gv h]; exact hg
  have f2 : giveR τ (cur τ b) (gvF τ (cur τ b) t - 1) 9 (cur τ b) 2 = gvF τ (cur τ b) t - 1 := by simp [giveR, us]
  have f5 : giveR τ (cur τ b) (gvF τ (cur τ b) t - 1) 9 (cur τ b) 5 = 0 := by simp [giveR, us]
  have f0 : giveR τ (cur τ b) (gvF τ (cur τ b) t - 1) 9 (cur τ b) 0 = τ 9 (cur τ b) 0 := by
    unfold giveR
    rw [us_at, us_at, if_neg (fun e => by omega), if_neg (fun e => by omega), lodR_ne _ _ _ (by decide)]
  have f10 : ∀ j, giveR τ (cur τ b) (gvF τ (cur τ b) t - 1) 10 (cur τ b) j = τ 10 (cur τ b) j := by
    intro j
    unfold giveR
    rw [us_at, us_at, if_neg (fun e => by omega), if_neg (fun e => by omega), lodR_ne _ _ _ (by decide)]
  refine ⟨WF_give h.1 hi (by omega), HN_upd h.2.1 hx (fun q => ?_), fun y hy => ?_, fun y hy hG => ?_, fun y q hy => ?_, fun x y q h7 h9 h10 => ?_⟩
  · rw [f0] at q
    have := h.2.1 _ q
    omega
  · have hne : y ≠ cur τ b := by
      rintro rfl
      refine hy ⟨by omega, ?_, ?_⟩
      · rw [hb2]; exact hg0
      · rw [hb2]; exact e0
    exact SNw_upd (h.2.2.1 y (fun q => hy ⟨by omega, q.2⟩)) hx hne
  · by_cases q : y = cur τ b
    · subst q
      refine ⟨f5, ?_⟩
      rw [(hx.way _).2.2.2.1]
      unfold wtS
      rw [f2, f10, f10, (hx.way _).1]
      by_cases q0 : gvF τ (cur τ b) t - 1 = 0
      · rw [if_pos q0]
        exact h.1.ft _ (by omega)
      · rw [if_neg q0, hx.k (x := 5) _ _ (by decide) (by decide) (by decide)]
        exact (h.1.chain (cur τ b) (gvF τ (cur τ b) t - 1 - 1) (by omega)).2
    · have hyb : y / 2 < b := by
        have : y / 2 ≠ b := by
          intro e
          apply q
          have := hG.2
          rw [e] at this
          rw [this, e0]
        omega
      have := h.2.2.2.1 y hyb hG
      rw [hx 9 y 5 (by decide) (fun e => q e.2), (wtS_x hx q).1, (hx.way y).2.2.2.1]
      exact this
  · have hne : y ≠ cur τ b := by rintro rfl; omega
    rw [hx 9 y q (by decide) (fun e => hne e.2), hx 10 y q (by decide) (fun e => hne e.2)]
    exact h.2.2.2.2.1 y q (by omega)
  · rw [hx.k _ _ h7 h9 h10]
    exact h.2.2.2.2.2 x y q h7 h9 h10
/-- what holds while boxes are led anew: those below b are -/
def P2 (τ0 : SG) (t b : Nat) (τ : SG) : Prop := WF τ ∧ HN τ ∧ (∀ y, ¬ (b ≤ y / 2 ∧ y / 2 < τ0 0 3 0 ∧ Gv τ0 t y) → SNw τ y) ∧ (∀ y, b ≤ y / 2 → y / 2 < τ0 0 3 0 → Gv τ0 t y → τ 9 y 5 = 0 ∧ wtS τ y ≠ toS τ y) ∧ (∀ x y q, x ≠ 7 → x ≠ 9 → x ≠ 10 → τ x y q = τ0 x y q)
theorem P12 {τ0 : SG} {t : Nat} (h : P1 τ0 t (τ0 0 3 0) τ) : P2 τ0 t 0 τ := ⟨h.1, h.2.1, fun y hy => h.2.2.1 y (fun q => hy ⟨Nat.zero_le _, q.1, q.2⟩), fun y _ hb hG => h.2.2.2.1 y hb hG, h.2.2.2.2.2⟩
theorem P2_inv {τ0 : SG} {t : Nat} (h : P2 τ0 t (τ0 0 3 0) τ) : INV τ := ⟨h.1, fun y => h.2.2.1 y (fun q => by omega), h.2.1⟩
theorem P2_no {τ0 : SG} {t b : Nat} (h : P2 τ0 t b τ) (hg : gvF τ0 (cur τ0 b) t = 0) : P2 τ0 t (b + 1) τ := by
  have hno : ∀ y, y / 2 = b → ¬ Gv τ0 t y := fun y hy hG => hG.1 (by rw [hy]; exact hg)
  refine ⟨h.1, h.2.1, fun y hy => h.2.2.1 y (fun q => ?_), fun y hy => h.2.2.2.1 y (by omega), h.2.2.2.2⟩
  by_cases q2 : y / 2 = b
  · exact hno y q2 q.2.2
  · exact hy ⟨by omega, q.2⟩
theorem PW_new {i n : Nat} (h5 : τ 9 i 5 = 0) (hne : wtS τ i ≠ toS τ i) : PW τ i (wtS τ i) (max (thereS τ i) n) := by
  refine ⟨h5, fun q => ?_, fun q => ?_, fun q => absurd q hne⟩
  · unfold wtS thereS
    rw [if_neg (by omega), if_neg (by omega)]
    exact ⟨rfl, Nat.le_max_left _ _⟩
  · unfold wtS
    rw [if_pos q]
theorem P2_yes {τ0 : SG} {t b : Nat} (h : P2 τ0 t b τ) (hb : b < τ0 0 3 0) (hg : gvF τ0 (cur τ0 b) t ≠ 0) : P2 τ0 t (b + 1) (anew τ (cur τ b)) := by
  have e0 := cur_c h.2.2.2.2 b
  have hb2 := (cur_mod (σ := τ) (b := b)).2.2
  have hbτ : b < τ 0 3 0 := by rw [h.2.2.2.2 0 _ _ (by decide) (by decide) (by decide)]; exact hb
  have hi := cur_ok h.1 hbτ
  have hG : Gv τ0 t (cur τ b) := ⟨by rw [hb2]; exact hg, by rw [hb2]; exact e0⟩
  have hs := h.2.2.2.1 (cur τ b) (by omega) (by omega) hG
  have hpw := PW_new (n := τ 0 0 0) hs.1 hs.2
  have htb := h.1.thb (cur τ b)
  have hnow := h.1.now
  have hwl := wt_le h.1 (cur τ b)
  have hGi : ∀ y, y / 2 = b → Gv τ0 t y → y = cur τ b := fun y hy hG => by
    have := hG.2
    rw [hy] at this
    rw [this, e0]
  have fin : ∀ τ', SameX (cur τ b) τ' τ → WF τ' → HN τ' → SNw τ' (cur τ b) → P2 τ0 t (b + 1) τ' := by
    intro τ' hx hwf hhn hsn
    refine ⟨hwf, hhn, fun y hy => ?_, fun y hy hyb hGy => ?_, fun x y q h7 h9 h10 => ?_⟩
    · by_cases q : y = cur τ b
      · subst q; exact hsn
      · refine SNw_upd (h.2.2.1 y (fun q2 => ?_)) hx q
        by_cases q3 : y / 2 = b
        · exact q (hGi y q3 q2.2.2)
        · exact hy ⟨by omega, q2.2⟩
    · have hne : y ≠ cur τ b := by rintro rfl; omega
      rw [hx 9 y 5 (by decide) (fun e => hne e.2), (wtS_x hx hne).1, (hx.way y).2.2.2.1]
      exact h.2.2.2.1 y (by omega) hyb hGy
    · rw [hx.k _ _ h7 h9 h10]
      exact h.2.2.2.2 x y q h7 h9 h10
  unfold anew
  cases hl : leadF τ (cur τ b) (wtS τ (cur τ b)) (max (thereS τ (cur τ b)) (τ 0 0 0)) with
  | some τ' =>
    obtain ⟨hx, h0, h3⟩ := lead_x hl
    exact fin τ' hx (WF_lead h.1 hi hpw (by omega) hl) (HN_upd h.2.1 hx (fun q => by rw [h0] at q; cases q)) (fun q => absurd h3 q)
  | none =>
    show P2 τ0 t (b + 1) (us (us τ 9 (cur τ b) 3 (wtS τ (cur τ b) + 1)) 9 (cur τ b) 4 (max (thereS τ (cur τ b)) (τ 0 0 0)))
    have hx : SameX (cur τ b) (us (us τ 9 (cur τ b) 3 (wtS τ (cur τ b) + 1)) 9 (cur τ b) 4 (max (thereS τ (cur τ b)) (τ 0 0 0))) τ := by
      intro x y q h7 hn
      rw [us_at, us_at, if_neg (fun e => hn ⟨Or.inl e.1, e.2.1⟩), if_neg (fun e => hn ⟨Or.inl e.1, e.2.1⟩)]
    have es : us (us τ 9 (cur τ b) 3 (wtS τ (cur τ b) + 1)) 9 (cur τ b) 4 (max (thereS τ (cur τ b)) (τ 0 0 0)) = standS τ (cur τ b) (wtS τ (cur τ b)) (max (thereS τ (cur τ b)) (τ 0 0 0)) := by
      funext x y q
      simp only [standS, us_at]
      by_cases q1 : x = 9 ∧ y = cur τ b ∧ q = 5
      · obtain ⟨rfl, rfl, rfl⟩ := q1
        simp [hs.1]
      · simp only [if_neg q1]
    have g3 : standS τ (cur τ b) (wtS τ (cur τ b)) (max (thereS τ (cur τ b)) (τ 0 0 0)) 9 (cur τ b) 3 = wtS τ (cur τ b) + 1 := by simp [standS, us]
    have g4 : standS τ (cur τ b) (wtS τ (cur τ b)) (max (thereS τ (cur τ b)) (τ 0 0 0)) 9 (cur τ b) 4 = max (thereS τ (cur τ b)) (τ 0 0 0) := by simp [standS, us]
    have g5 : standS τ (cur τ b) (wtS τ (cur τ b)) (max (thereS τ (cur τ b)) (τ 0 0 0)) 9 (cur τ b) 5 = 0 := by simp [standS, us]
    have g2 : standS τ (cur τ b) (wtS τ (cur τ b)) (max (thereS τ (cur τ b)) (τ 0 0 0)) 9 (cur τ b) 2 = τ 9 (cur τ b) 2 := by simp [standS, us]
    have g0 : standS τ (cur τ b) (wtS τ (cur τ b)) (max (thereS τ (cur τ b)) (τ 0 0 0)) 9 (cur τ b) 0 = τ 9 (cur τ b) 0 := by simp [standS, us]
    have g10 : ∀ j, standS τ (cur τ b) (wtS τ (cur τ b)) (max (thereS τ (cur τ b)) (τ 0 0 0)) 10 (cur τ b) j = τ 10 (cur τ b) j := fun j => by simp [standS, us]
    rw [es] at hx ⊢
    refine fin _ hx (WF_stand h.1 hi hwl (by omega)) (HN_upd h.2.1 hx (fun q => ?_)) (fun _ _ => ?_)
    · rw [g0] at q
      rw [g2, g5]
      exact ⟨(h.2.1 _ q).1, rfl⟩
    · rw [g3, g4, g5, g2, g10, g10, (hx.way _).2.2.2.1, (hx.way _).1, hx.sr, hx.k (x := 5) _ _ (by decide) (by decide) (by decide)]
      refine ⟨fun e => hs.2 (by omega), rfl, fun q => ?_, fun q => ?_⟩
      · unfold wtS thereS
        rw [if_neg (by omega), if_neg (by omega)]
        exact ⟨rfl, Nat.le_max_left _ _⟩
      · unfold wtS
        rw [if_pos q]
theorem WF_st (wf : WF τ) {P : Nat → Bool} {n : Nat} (hP : ∀ y, P y = true → okW τ y) (hn : n ≤ 1439) : WF (stS P n τ) := by
  have e : E34 (stS P n τ) τ := st_34
  have e0 : ∀ y q, stS P n τ 0 y q = τ 0 y q := fun y q => e 0 y q (by omega)
  have e1 : ∀ y q, stS P n τ 1 y q = τ 1 y q := fun y q => e 1 y q (by omega)
  have e2 : ∀ y q, stS P n τ 2 y q = τ 2 y q := fun y q => e 2 y q (by omega)
  have e3 : ∀ y q, stS P n τ 3 y q = τ 3 y q := fun y q => e 3 y q (by omega)
  have e4 : ∀ y q, stS P n τ 4 y q = τ 4 y q := fun y q => e 4 y q (by omega)
  have e5 : ∀ y q, stS P n τ 5 y q = τ 5 y q := fun y q => e 5 y q (by omega)
  have e6 : ∀ y q, stS P n τ 6 y q = τ 6 y q := fun y q => e 6 y q (by omega)
  have e7 : ∀ y q, stS P n τ 7 y q = τ 7 y q := fun y q => e 7 y q (by omega)
  have e8 : ∀ y q, stS P n τ 8 y q = τ 8 y q := fun y q => e 8 y q (by omega)
  have e10 : ∀ y q, stS P n τ 10 y q = τ 10 y q := fun y q => e 10 y q (by omega)
  have e11 : ∀ y q, stS P n τ 11 y q = τ 11 y q := fun y q => e 11 y q (by omega)
  have e90 : ∀ y, stS P n τ 9 y 0 = τ 9 y 0 := fun y => e 9 y 0 (by omega)
  have e92 : ∀ y, stS P n τ 9 y 2 = τ 9 y 2 := fun y => e 9 y 2 (by omega)
  have e95 : ∀ y, stS P n τ 9 y 5 = τ 9 y 5 := fun y => e 9 y 5 (by omega)
  have es : ∀ t k, srt (stS P n τ) t k = srt τ t k := fun t k => by unfold srt; rw [e6, e5, e1]
  have ef : ∀ y, fromS (stS P n τ) y = fromS τ y := fun y => by unfold fromS; rw [e8, e8]
  have et : ∀ y, toS (stS P n τ) y = toS τ y := fun y => (e.way y).2.2
  refine ⟨by rw [e0]; exact wf.now, by rw [e0]; exact wf.st, by rw [e0]; exact wf.tr, by rw [e0]; exact wf.bx, by rw [e0]; exact wf.ca, fun a => by rw [e1]; exact wf.sort a, fun a => by rw [e2]; exact wf.room a, fun a => by rw [e3]; exact wf.stops a, fun a => by rw [e4]; exact wf.canc a, fun a b => by rw [e5]; exact wf.sta a b, fun a b => by rw [e6]; exact wf.min a b, fun a b c => by rw [e3, e6, e6]; exact wf.inc a b c, fun a b hb => by rw [e7]; rw [e3] at hb; exact wf.load a b hb, fun b => by simp only [e8]; exact wf.box b, fun y => ?_, fun y j hj => by rw [e92] at hj; simp only [e10, e0, e3]; exact wf.leg y j hj, fun y j => by rw [e10]; exact wf.legb y j, fun y j hj => by rw [e92] at hj; simp only [es, e10, e6, e5, et]; exact wf.chain y j hj, fun y hy => by rw [e92] at hy; rw [ef, et]; exact wf.ft y hy, fun y hy => by rw [e95] at hy ⊢; rw [(e.way y).2.1]; exact wf.there y hy, fun a => by rw [e11]; exact wf.days a, fun t ht => by simp only [e0] at ht; simp only [e3, e4, e2, e5, e6, e7]; exact wf.freshT t ht, fun y hy => ?_, fun b hb => by rw [e8]; rw [e0] at hb; exact wf.freshB b hb, fun b hb => by rw [e8] at hb ⊢; exact wf.rb b hb⟩
  · have hw := wf.way y
    have h1 := wt_le wf y
    have h2 := wf.thb y
    rw [e90, e92, e95, st_at3, st_at4]
    refine ⟨hw.1, hw.2.1, ?_, ?_, hw.2.2.2.2⟩
    · split <;> omega
    · split <;> omega
  · rw [e0, e8] at hy
    have f := wf.freshW y hy
    rw [e90, e92, e95, e0]
    refine ⟨f.1, f.2.1, f.2.2.1, fun hb => ?_, fun j => by rw [e10]; exact f.2.2.2.2 j⟩
    rw [st_at3]
    split
    · rename_i q
      have := hP y q
      have h1 := this.1
      have h2 := this.2
      omega
    · exact f.2.2.2.1 hb
end CANC
