/-! share: class and reference part a sum alike -/
def dS (σ : SG) : Nat → Nat
  | 0 => 0
  | n + 1 => dS σ n + σ 11 n 0
def wdS (σ : SG) (al i : Nat) : Nat := if al = 0 then σ 11 i 0 else 1
def wgt (σ : SG) (s al i : Nat) : Nat := s * wdS σ al i
def lfS (σ : SG) (s al a : Nat) : Nat → Int32
  | 0 => nI s
  | n + 1 => lfS σ s al a n - nI (wgt σ s al n / a)
def ahC (σ : SG) (s al a c n : Nat) : Prop := wgt σ s al c % a < wgt σ s al n % a ∨ (wgt σ s al n % a = wgt σ s al c % a ∧ n < c)
theorem ahC_d (σ : SG) (s al a c n : Nat) : ahC σ s al a c n ↔ (wgt σ s al c % a < wgt σ s al n % a ∨ (wgt σ s al n % a = wgt σ s al c % a ∧ n < c)) := Iff.rfl
def ahS (σ : SG) (s al a c : Nat) : Nat → Nat
  | 0 => 0
  | n + 1 => ahS σ s al a c n + if wgt σ s al c % a < wgt σ s al n % a ∨ (wgt σ s al n % a = wgt σ s al c % a ∧ n < c) then 1 else 0
def shS (σ : SG) (s al a c : Nat) : Int32 := if lfS σ s al a (σ 0 4 0) ≤ nI (ahS σ s al a c (σ 0 4 0)) then nI (wgt σ s al c / a) else nI (wgt σ s al c / a + 1)
def cf2 : String → Nat := fun e => if e = eI then 2 else 1
section SHARE
variable {σ κ τ μ : SG} {z : BB} {w : PS}
theorem dS_b (wf : WF σ) : ∀ n, dS σ n ≤ 31 * n
  | 0 => Nat.le_refl _
  | n + 1 => by
    have h1 := dS_b wf n
    have h2 := wf.days n
    show dS σ n + σ 11 n 0 ≤ _
    omega
theorem wgt_b (wf : WF σ) {s al i : Nat} (hs : s ≤ 10000000) : wgt σ s al i ≤ 310000000 := by
  have h1 : wdS σ al i ≤ 31 := by
    have := wf.days i
    unfold wdS; split <;> omega
  have : s * wdS σ al i ≤ 10000000 * 31 := Nat.mul_le_mul hs h1
  unfold wgt; omega
theorem ah_b {s al a c : Nat} : ∀ n, ahS σ s al a c n ≤ n
  | 0 => Nat.le_refl _
  | n + 1 => by
    have h1 := ah_b (s := s) (al := al) (a := a) (c := c) n
    show ahS σ s al a c n + (if _ then 1 else 0) ≤ _
    split <;> omega
theorem ah_y {s al a c n : Nat} (h : ahC σ s al a c n) : ahS σ s al a c (n + 1) = ahS σ s al a c n + 1 := by
  show ahS σ s al a c n + (if _ then 1 else 0) = _
  rw [if_pos ((ahC_d σ s al a c n).mp h)]
theorem ah_n {s al a c n : Nat} (h : ¬ ahC σ s al a c n) : ahS σ s al a c (n + 1) = ahS σ s al a c n := by
  show ahS σ s al a c n + (if _ then 1 else 0) = _
  rw [if_neg (fun q => h ((ahC_d σ s al a c n).mpr q))]; rfl
theorem q_divI {W a : Nat} (hW : W < 2 ^ 31) (h0 : 0 < a) (ha : a < 2 ^ 31) : pdivI (nI W) (nI a) w = some (.inl (nI (W / a)), w) := by
  unfold pdivI
  rw [if_neg (nI_ne0 h0 ha), pk_div hW h0 ha]
theorem q_remI {W a : Nat} (hW : W < 2 ^ 31) (h0 : 0 < a) (ha : a < 2 ^ 31) : premI (nI W) (nI a) w = some (.inl (nI (W % a)), w) := by
  unfold premI
  rw [if_neg (nI_ne0 h0 ha), pk_rem hW h0 ha]
theorem lN_ne0 {a : Nat} (h0 : 0 < a) (ha : a < 2 ^ 31) : ¬ lN a = 0 := by
  intro e
  have : lN a = lN 0 := e
  rw [lN_eq ha (by decide)] at this
  omega
theorem q_divL {W a : Nat} (hW : W < 2 ^ 31) (h0 : 0 < a) (ha : a < 2 ^ 31) : pdivL (lN W) (lN a) w = some (.inl (lN (W / a)), w) := by
  unfold pdivL
  rw [if_neg (lN_ne0 h0 ha), pk_lDiv (by omega) h0 (by omega)]
theorem q_remL {W a : Nat} (hW : W < 2 ^ 31) (h0 : 0 < a) (ha : a < 2 ^ 31) : premL (lN W) (lN a) w = some (.inl (lN (W % a)), w) := by
  unfold premL
  rw [if_neg (lN_ne0 h0 ha), pk_lRem (by omega) h0 (by omega)]
/-- all days, the class's -/
theorem L_ad (wf : WF σ) (hw : Wd σ κ τ μ z w) : ∀ (n f i : Nat), i + n = σ 0 4 0 → n ≤ f → Rx (p_X1_allDays_L4 (fun y => prt y) (f + 1) (nI (dS σ i)) (nI i)) w (fun v w' => v = nI (dS σ (σ 0 4 0)) ∧ w' = w) NE := by
  have hca := wf.ca
  intro n
  induction n with
  | zero =>
    intro f i h1 h2
    have : i = σ 0 4 0 := by omega
    subst this
    rw [p_X1_allDays_L4]
    refine Rx_rd (g_ca hw) ?_
    exact Rx_pos (by rw [nI_leI (by omega) (by omega)]; omega) (Rx_rt ⟨rfl, rfl⟩)
  | succ n ih =>
    intro f i h1 h2
    obtain ⟨f', rfl⟩ : ∃ f', f = f' + 1 := ⟨f - 1, by omega⟩
    rw [p_X1_allDays_L4]
    refine Rx_rd (g_ca hw) ?_
    refine Rx_neg (by rw [nI_leI (by omega) (by omega)]; omega) ?_
    refine Rx_rd (g_chk2 hw) ?_
    refine Rx_rd (g_days hw (by omega)) ?_
    rw [nI_add, nI_1]
    exact ih f' (i + 1) (by omega) (by omega)
theorem q_wgt (wf : WF σ) (hw : Wd σ κ τ μ z w) {s al i : Nat} (hal : al ≤ 1) (hi : i < 40) : p_X1_weighed (nI i) (nI s) (nI al) w = some (.inl (nI (wgt σ s al i)), w) := by
  refine Rx_un ?_
  unfold p_X1_weighed p_X1_weighed_b16 wgt wdS
  by_cases q : al = 0
  · subst q
    refine Rx_pos rfl ?_
    refine Rx_rd (g_chk2 hw) ?_
    refine Rx_rd (g_days hw hi) ?_
    rw [nI_mulI, if_pos rfl]
    exact Rx_rt ⟨rfl, rfl⟩
  · refine Rx_neg (nI_ne0 (by omega) (by omega)) ?_
    rw [if_neg q, Nat.mul_one]
    exact Rx_rt ⟨rfl, rfl⟩
theorem L_pt {Q : Int32 → PS → Prop} {E : String → PS → Prop} {kx : Int32 → Int32 → PM Int32} (wf : WF σ) (hw : Wd σ κ τ μ z w) {s al a c : Nat} (hs : s ≤ 10000000) (h0 : 0 < a) (ha : a < 2 ^ 31) (hal : al ≤ 1) (hc : c < 40) (hk : Rx (kx (lfS σ s al a (σ 0 4 0)) (nI (ahS σ s al a c (σ 0 4 0)))) w Q E) : ∀ (n f i : Nat), i + n = σ 0 4 0 → n ≤ f → Rx (p_X1_partOf_L60 (nI c) (nI s) (nI al) (nI a) (nI (wgt σ s al c % a)) kx (f + 1) (lfS σ s al a i) (nI (ahS σ s al a c i)) (nI i)) w Q E := by
  have hca := wf.ca
  intro n
  induction n with
  | zero =>
    intro f i h1 h2
    have : i = σ 0 4 0 := by omega
    subst this
    rw [p_X1_partOf_L60]
    refine Rx_rd (g_ca hw) ?_
    exact Rx_pos (by rw [nI_leI (by omega) (by omega)]; omega) hk
  | succ n ih =>
    intro f i h1 h2
    obtain ⟨f', rfl⟩ : ∃ f', f = f' + 1 := ⟨f - 1, by omega⟩
    have b1 := wgt_b wf (al := al) (i := i) hs
    have b2 := wgt_b wf (al := al) (i := c) hs
    have b3 := Nat.mod_lt (wgt σ s al i) h0
    have b4 := Nat.mod_lt (wgt σ s al c) h0
    rw [p_X1_partOf_L60]
    unfold p_X1_partOf_b117 p_X1_partOf_b120
    refine Rx_rd (g_ca hw) ?_
    refine Rx_neg (by rw [nI_leI (by omega) (by omega)]; omega) ?_
    refine Rx_assoc ?_
    refine Rx_rd (g_chk2 hw) ?_
    refine Rx_rd (q_wgt wf hw hal (by omega)) ?_
    refine Rx_rd (q_divI (by omega) h0 ha) ?_
    refine Rx_rd (q_remI (by omega) h0 ha) ?_
    have ty : ahC σ s al a c i → Rx (p_X1_partOf_L60 (nI c) (nI s) (nI al) (nI a) (nI (wgt σ s al c % a)) kx (f' + 1) (lfS σ s al a i - nI (wgt σ s al i / a)) (nI (ahS σ s al a c i) + 1) (nI i + 1)) w Q E := fun q => by
      rw [nI_1, nI_1, ← ah_y q]
      exact ih f' (i + 1) (by omega) (by omega)
    have tn : ¬ ahC σ s al a c i → Rx (p_X1_partOf_L60 (nI c) (nI s) (nI al) (nI a) (nI (wgt σ s al c % a)) kx (f' + 1) (lfS σ s al a i - nI (wgt σ s al i / a)) (nI (ahS σ s al a c i)) (nI i + 1)) w Q E := fun q => by
      rw [nI_1, ← ah_n q]
      exact ih f' (i + 1) (by omega) (by omega)
    refine Rx_if (fun q => ?_) (fun q => ?_)
    · rw [nI_ltI (by omega) (by omega)] at q
      exact ty (Or.inl q)
    · rw [nI_ltI (by omega) (by omega)] at q
      refine Rx_if (fun q1 => ?_) (fun q1 => ?_)
      · rw [nI_eq (by omega) (by omega)] at q1
        refine Rx_if (fun q2 => ?_) (fun q2 => ?_)
        · rw [nI_leI (by omega) (by omega)] at q2
          exact tn (fun u => by rcases u with u | u <;> omega)
        · rw [nI_leI (by omega) (by omega)] at q2
          exact ty (Or.inr ⟨q1, by omega⟩)
      · rw [nI_eq (by omega) (by omega)] at q1
        exact tn (fun u => by rcases u with u | u <;> omega)
theorem q_part (wf : WF σ) (hw : Wd σ κ τ μ z w) {s al a c : Nat} (hs : s ≤ 10000000) (h0 : 0 < a) (ha : a < 2 ^ 31) (hal : al ≤ 1) (hc : c < σ 0 4 0) : p_X1_partOf_b29 (nI c) (nI s) (nI al) (nI a) w = some (.inl (shS σ s al a c), w) := by
  have hca := wf.ca
  have b2 := wgt_b wf (al := al) (i := c) hs
  refine Rx_un ?_
  unfold p_X1_partOf_b29 p_X1_partOf_b155
  refine Rx_pos (by rw [nL_0, nI_ltI (by omega) ha]; exact h0) ?_
  refine Rx_assoc ?_
  refine Rx_rd (g_chk2 hw) ?_
  refine Rx_rd (q_wgt wf hw hal (by omega)) ?_
  refine Rx_rd (q_remI (by omega) h0 ha) ?_
  refine L_pt (f := 4095) wf hw hs h0 ha hal (by omega) ?_ (σ 0 4 0) 0 (by omega) (by omega)
  refine Rx_assoc ?_
  refine Rx_rd (g_chk2 hw) ?_
  refine Rx_rd (q_wgt wf hw hal (by omega)) ?_
  refine Rx_rd (q_divI (by omega) h0 ha) ?_
  refine Rx_if (fun q => Rx_rt ⟨?_, rfl⟩) (fun q => Rx_rt ⟨?_, rfl⟩)
  · unfold shS; rw [if_pos q]
  · unfold shS; rw [if_neg q, nI_1]
/-- what a carrier gets, by all days -/
def shR (σ : SG) (s c : Nat) : Int32 := if dS σ (σ 0 4 0) = 0 then shS σ s 1 (σ 0 4 0) c else shS σ s 0 (dS σ (σ 0 4 0)) c
theorem q_partOf (wf : WF σ) (hw : Wd σ κ τ μ z w) {s c : Nat} (hs : s ≤ 10000000) (hc : c < σ 0 4 0) : p_X1_partOf (nI c) (nI s) w = some (.inl (shR σ s c), w) := by
  have hca := wf.ca
  have hd := dS_b wf (σ 0 4 0)
  refine Rx_un ?_
  unfold p_X1_partOf p_X1_partOf_b14 shR
  refine Rx_assoc ?_
  refine Rx_rd (g_chk2 hw) ?_
  refine Rx_rd (Rx_un (L_ad (f := 4095) wf hw (σ 0 4 0) 0 (by omega) (by omega))) ?_
  by_cases q : dS σ (σ 0 4 0) = 0
  · rw [if_pos q]
    refine Rx_pos (by rw [q]; rfl) ?_
    refine Rx_neg (by decide) ?_
    refine Rx_rd (g_ca hw) ?_
    exact ⟨_, _, q_part (al := 1) wf hw hs (by omega) (by omega) (by omega) hc, rfl, rfl⟩
  · rw [if_neg q]
    refine Rx_neg (nI_ne0 (by omega) (by omega)) ?_
    refine Rx_pos rfl ?_
    exact ⟨_, _, q_part (al := 0) wf hw hs (by omega) (by omega) (by omega) hc, rfl, rfl⟩
/-! the reference's -/
theorem L_Mad {Q : Int32 → PS → Prop} {E : String → PS → Prop} {x1 x2 : Int32} {kx : Int32 → PM Int32} (wt : WF τ) (hw : Wd σ κ τ μ z w) (hk : Rx (kx (nI (dS τ (τ 0 4 0)))) w Q E) : ∀ (n f i : Nat), i + n = τ 0 4 0 → n ≤ f → Rx (p_X6_share_L44 x1 x2 kx (f + 1) (nI (dS τ i)) (nI i)) w Q E := by
  have hca := wt.ca
  intro n
  induction n with
  | zero =>
    intro f i h1 h2
    have : i = τ 0 4 0 := by omega
    subst this
    rw [p_X6_share_L44]
    refine Rx_rd (h_ca hw) ?_
    exact Rx_pos (by rw [nI_leI (by omega) (by omega)]; omega) hk
  | succ n ih =>
    intro f i h1 h2
    obtain ⟨f', rfl⟩ : ∃ f', f = f' + 1 := ⟨f - 1, by omega⟩
    rw [p_X6_share_L44]
    refine Rx_rd (h_ca hw) ?_
    refine Rx_neg (by rw [nI_leI (by omega) (by omega)]; omega) ?_
    refine Rx_rd (g_chk7 hw) ?_
    refine Rx_rd (h_days hw (by omega)) ?_
    rw [nI_add, nI_1]
    exact ih f' (i + 1) (by omega) (by omega)
theorem Rx_wd {Q : Int32 → PS → Prop} {E : String → PS → Prop} {f : Int32 → PM Int32} {al i : Nat} (hw : Wd σ κ τ μ z w) (hal : al ≤ 1) (hi : i < 40) (h : Rx (f (nI (wdS τ al i))) w Q E) : Rx (if nI al = 0 then pbnd (pchk 7 0) fun _ => pbnd (pld 9 12 (nI i)) fun v => f v else f 1) w Q E := by
  by_cases q : al = 0
  · subst q
    refine Rx_pos rfl ?_
    refine Rx_rd (g_chk7 hw) ?_
    refine Rx_rd (h_days hw hi) ?_
    unfold wdS at h
    rw [if_pos rfl] at h
    exact h
  · refine Rx_neg (nI_ne0 (by omega) (by omega)) ?_
    unfold wdS at h
    rw [if_neg q] at h
    exact h
theorem mulL (wt : WF τ) {s al i : Nat} (hs : s ≤ 10000000) : (nI s).toInt64 * (nI (wdS τ al i)).toInt64 = lN (wgt τ s al i) := by
  have h1 : wdS τ al i ≤ 31 := by
    have := wt.days i
    unfold wdS; split <;> omega
  rw [nI_l (by omega), nI_l (by omega), lN_mul]
  rfl
theorem L_Mlf {Q : Int32 → PS → Prop} {E : String → PS → Prop} {x1 : Int32} {kx : Int32 → PM Int32} {s al a : Nat} (wt : WF τ) (hw : Wd σ κ τ μ z w) (hs : s ≤ 10000000) (h0 : 0 < a) (ha : a < 2 ^ 31) (hal : al ≤ 1) (hk : Rx (kx (lfS τ s al a (τ 0 4 0))) w Q E) : ∀ (n f i : Nat), i + n = τ 0 4 0 → n ≤ f → Rx (p_X6_share_L96 x1 (nI s) (nI a) (nI al) kx (f + 1) (lfS τ s al a i) (nI i)) w Q E := by
  have hca := wt.ca
  intro n
  induction n with
  | zero =>
    intro f i h1 h2
    have : i = τ 0 4 0 := by omega
    subst this
    rw [p_X6_share_L96]
    refine Rx_rd (h_ca hw) ?_
    exact Rx_pos (by rw [nI_leI (by omega) (by omega)]; omega) hk
  | succ n ih =>
    intro f i h1 h2
    obtain ⟨f', rfl⟩ : ∃ f', f = f' + 1 := ⟨f - 1, by omega⟩
    have b1 := wgt_b wt (al := al) (i := i) hs
    rw [p_X6_share_L96]
    unfold p_X6_share_b125
    refine Rx_rd (h_ca hw) ?_
    refine Rx_neg (by rw [nI_leI (by omega) (by omega)]; omega) ?_
    refine Rx_wd (f := fun v => pbnd (pdivL ((nI s).toInt64 * v.toInt64) (nI a).toInt64) fun v129 => p_X6_share_L96 x1 (nI s) (nI a) (nI al) kx (f' + 1) (lfS τ s al a i - v129.toInt32) (nI i + 1)) hw hal (by omega) ?_
    rw [mulL wt hs, nI_l ha]
    refine Rx_rd (q_divL (by omega) h0 ha) ?_
    rw [lN_i, nI_1]
    exact ih f' (i + 1) (by omega) (by omega)
theorem L_Mah {Q : Int32 → PS → Prop} {E : String → PS → Prop} {x5 : Int32} {kx : Int32 → PM Int32} {s al a c : Nat} (wt : WF τ) (hw : Wd σ κ τ μ z w) (hs : s ≤ 10000000) (h0 : 0 < a) (ha : a < 2 ^ 31) (hal : al ≤ 1) (hc : c < 40) (hk : Rx (kx (nI (ahS τ s al a c (τ 0 4 0)))) w Q E) : ∀ (n f i : Nat), i + n = τ 0 4 0 → n ≤ f → Rx (p_X6_share_L167 (nI c) (nI s) (nI a) (nI al) x5 (lN (wgt τ s al c)) kx (f + 1) (nI (ahS τ s al a c i)) (nI i)) w Q E := by
  have hca := wt.ca
  intro n
  induction n with
  | zero =>
    intro f i h1 h2
    have : i = τ 0 4 0 := by omega
    subst this
    rw [p_X6_share_L167]
    refine Rx_rd (h_ca hw) ?_
    exact Rx_pos (by rw [nI_leI (by omega) (by omega)]; omega) hk
  | succ n ih =>
    intro f i h1 h2
    obtain ⟨f', rfl⟩ : ∃ f', f = f' + 1 := ⟨f - 1, by omega⟩
    have b1 := wgt_b wt (al := al) (i := i) hs
    have b2 := wgt_b wt (al := al) (i := c) hs
    have b3 := Nat.mod_lt (wgt τ s al i) h0
    have b4 := Nat.mod_lt (wgt τ s al c) h0
    rw [p_X6_share_L167]
    refine Rx_rd (h_ca hw) ?_
    refine Rx_neg (by rw [nI_leI (by omega) (by omega)]; omega) ?_
    refine Rx_wd (f := fun v => p_X6_share_b194 (p_X6_share_L167 (nI c) (nI s) (nI a) (nI al) x5 (lN (wgt τ s al c)) kx (f' + 1)) (nI c) (nI s) (nI a) (nI al) x5 (lN (wgt τ s al c)) (nI (ahS τ s al a c i)) (nI i) v (nI s).toInt64) hw hal (by omega) ?_
    unfold p_X6_share_b194 p_X6_share_b229 p_X6_share_b232
    rw [mulL wt hs, nI_l ha]
    refine Rx_rd (q_remL (by omega) h0 ha) ?_
    refine Rx_rd (q_remL (by omega) h0 ha) ?_
    have ty : ahC τ s al a c i → Rx (p_X6_share_L167 (nI c) (nI s) (nI a) (nI al) x5 (lN (wgt τ s al c)) kx (f' + 1) (nI (ahS τ s al a c i) + 1) (nI i + 1)) w Q E := fun q => by
      rw [nI_1, nI_1, ← ah_y q]
      exact ih f' (i + 1) (by omega) (by omega)
    have tn : ¬ ahC τ s al a c i → Rx (p_X6_share_L167 (nI c) (nI s) (nI a) (nI al) x5 (lN (wgt τ s al c)) kx (f' + 1) (nI (ahS τ s al a c i)) (nI i + 1)) w Q E := fun q => by
      rw [nI_1, ← ah_n q]
      exact ih f' (i + 1) (by omega) (by omega)
    refine Rx_if (fun q => ?_) (fun q => ?_)
    · rw [lg_cmp_gt, lN_lt (by omega) (by omega)] at q
      exact ty (Or.inl q)
    · rw [lg_cmp_gt, lN_lt (by omega) (by omega)] at q
      refine Rx_rd (q_remL (by omega) h0 ha) ?_
      refine Rx_if (fun q1 => ?_) (fun q1 => ?_)
      · rw [lg_cmp_eq, lN_eq (by omega) (by omega)] at q1
        refine Rx_if (fun q2 => ?_) (fun q2 => ?_)
        · rw [nI_leI (by omega) (by omega)] at q2
          exact tn (fun u => by rcases u with u | u <;> omega)
        · rw [nI_leI (by omega) (by omega)] at q2
          exact ty (Or.inr ⟨q1, by omega⟩)
      · rw [lg_cmp_eq, lN_eq (by omega) (by omega)] at q1
        exact tn (fun u => by rcases u with u | u <;> omega)
theorem q_Mpart (wt : WF τ) (hw : Wd σ κ τ μ z w) {s al a c : Nat} (hs : s ≤ 10000000) (h0 : 0 < a) (ha : a < 2 ^ 31) (hal : al ≤ 1) (hc : c < τ 0 4 0) : p_X6_share_b90 (nI c) (nI s) (nI a) (nI al) w = some (.inl (shS τ s al a c), w) := by
  have hca := wt.ca
  have b2 := wgt_b wt (al := al) (i := c) hs
  refine Rx_un ?_
  unfold p_X6_share_b90
  refine L_Mlf (f := 4095) wt hw hs h0 ha hal ?_ (τ 0 4 0) 0 (by omega) (by omega)
  refine Rx_wd (f := fun v => p_X6_share_b157 (nI c) (nI s) (nI a) (nI al) (lfS τ s al a (τ 0 4 0)) v (nI s).toInt64) hw hal (by omega) ?_
  unfold p_X6_share_b157 p_X6_share_b256
  rw [mulL wt hs, nI_l ha]
  refine L_Mah (f := 4095) wt hw hs h0 ha hal (by omega) ?_ (τ 0 4 0) 0 (by omega) (by omega)
  refine Rx_rd (q_divL (by omega) h0 ha) ?_
  rw [lN_i]
  refine Rx_if (fun q => Rx_rt ⟨?_, rfl⟩) (fun q => Rx_rt ⟨?_, rfl⟩)
  · unfold shS; rw [if_pos q]; simp
  · unfold shS; rw [if_neg q, nI_1]
theorem op_share (hv : INV3 σ) (x y : Int32) : Op (p_X5_share x y) (p_X6_share x y) cf2 sNI σ := by
  have wf := hv.1.1
  have hca := wf.ca
  have hd := dS_b wf (σ 0 4 0)
  have failN : ∀ σc κ μ z w, HM μ → Wd σc κ σ μ z w → Rx p_X6_share_b17 w (fun v w' => ∃ μ', Wd σc κ σ μ' z w' ∧ HM μ' ∧ μ' 5 0 0 = 1) NE := fun σc κ μ z w hm hw => Rx_failp hm hw
  rcases i_or x with hx | ⟨c, hc31, rfl⟩
  · refine ⟨.inr eN, Or.inl rfl, σ, hv, fun κ τ μ z w hw => ?_, fun σc κ μ z w hm hw => ?_⟩
    · unfold p_X5_share p_X5_share_b15
      exact Rx_pos hx (Rx_thr ⟨rfl, κ, hw.thr⟩)
    · unfold p_X6_share
      rw [nL_0]
      refine Rx_set (t_code hw) (fun w1 hw1 => ?_)
      exact Rx_pos hx (failN _ _ _ _ _ (hm.code 0) hw1)
  by_cases hc : c < σ 0 4 0
  · by_cases hy : ∃ s, s ≤ 10000000 ∧ y = nI s
    · obtain ⟨s, hs, rfl⟩ := hy
      refine ⟨.inl (shR σ s c), trivial, σ, hv, fun κ τ μ z w hw => ?_, fun σc κ μ z w hm hw => ?_⟩
      · unfold p_X5_share
        refine Rx_neg (nI_pos hc31) ?_
        refine Rx_rd (g_chk6 hw) ?_
        refine Rx_rd (g_ca hw) ?_
        refine Rx_pos (by rw [nI_ltI (by omega) (by omega)]; exact hc) ?_
        refine Rx_rd (q_within (m := 10000000) (by omega) (by omega)) ?_
        refine Rx_ifb (fun q => absurd hs q) (fun _ => ?_)
        refine Rx_rd (g_chk6 hw) ?_
        refine Rx_assoc ?_
        refine Rx_rd (g_chk2 hw) ?_
        refine Rx_rd (q_partOf wf hw hs hc) ?_
        exact Rx_rt ⟨rfl, κ, hw⟩
      · unfold p_X6_share
        rw [nL_0]
        refine Rx_set (t_code hw) (fun w1 hw1 => ?_)
        refine Rx_neg (nI_pos hc31) ?_
        refine Rx_rd (h_ca hw1) ?_
        refine Rx_pos (by rw [nI_ltI (by omega) (by omega)]; exact hc) ?_
        refine Rx_neg (nI_pos (by omega)) ?_
        refine Rx_pos (by rw [nL_10000000, nI_leI (by omega) (by omega)]; exact hs) ?_
        refine L_Mad (f := 4095) wf hw1 ?_ (σ 0 4 0) 0 (by omega) (by omega)
        unfold p_X6_share_b78 shR
        by_cases q : dS σ (σ 0 4 0) = 0
        · rw [if_pos q]
          refine Rx_pos (by rw [q]) ?_
          refine Rx_neg (by decide) ?_
          refine Rx_rd (h_ca hw1) ?_
          exact ⟨_, _, q_Mpart (al := 1) wf hw1 hs (by omega) (by omega) (by omega) hc, _, hw1, hm.code 0, rfl, us_code⟩
        · rw [if_neg q]
          refine Rx_neg (nI_ne0 (by omega) (by omega)) ?_
          refine Rx_pos rfl ?_
          exact ⟨_, _, q_Mpart (al := 0) wf hw1 hs (by omega) (by omega) (by omega) hc, _, hw1, hm.code 0, rfl, us_code⟩
    · have hy' : y < 0 ∨ ∃ s, s < 2 ^ 31 ∧ 10000000 < s ∧ y = nI s := by
        rcases i_or y with h | ⟨s, h1, h2⟩
        · exact Or.inl h
        · exact Or.inr ⟨s, h1, by
            rcases Nat.lt_or_ge 10000000 s with q | q
            · exact q
            · exact absurd ⟨s, q, h2⟩ hy, h2⟩
      refine ⟨.inr eI, Or.inr rfl, σ, hv, fun κ τ μ z w hw => ?_, fun σc κ μ z w hm hw => ?_⟩
      · unfold p_X5_share
        refine Rx_neg (nI_pos hc31) ?_
        refine Rx_rd (g_chk6 hw) ?_
        refine Rx_rd (g_ca hw) ?_
        refine Rx_pos (by rw [nI_ltI (by omega) (by omega)]; exact hc) ?_
        rcases hy' with q | ⟨s, q1, q2, rfl⟩
        · refine Rx_rd (q_withinN q) ?_
          exact Rx_pos rfl (Rx_thr ⟨rfl, κ, hw.thr⟩)
        · refine Rx_rd (q_within (m := 10000000) (by omega) (by omega)) ?_
          exact Rx_ifb (fun _ => Rx_thr ⟨rfl, κ, hw.thr⟩) (fun q => by omega)
      · unfold p_X6_share
        rw [nL_0]
        refine Rx_set (t_code hw) (fun w1 hw1 => ?_)
        have fin : Rx p_X6_share_b32 w1 (fun v w' => ∃ μ', Wd σc κ σ μ' z w' ∧ HM μ' ∧ μ' 5 0 0 = 2) NE := by
          unfold p_X6_share_b32
          rw [nL_2]
          exact Rx_set (t_code hw1) (fun w2 hw2 => Rx_rt ⟨_, hw2, (hm.code 0).code 2, us_code⟩)
        refine Rx_neg (nI_pos hc31) ?_
        refine Rx_rd (h_ca hw1) ?_
        refine Rx_pos (by rw [nI_ltI (by omega) (by omega)]; exact hc) ?_
        rcases hy' with q | ⟨s, q1, q2, rfl⟩
        · exact Rx_pos q fin
        · refine Rx_neg (nI_pos q1) ?_
          exact Rx_neg (by rw [nL_10000000, nI_leI (by omega) (by omega)]; omega) fin
  · refine ⟨.inr eN, Or.inl rfl, σ, hv, fun κ τ μ z w hw => ?_, fun σc κ μ z w hm hw => ?_⟩
    · unfold p_X5_share p_X5_share_b15
      refine Rx_neg (nI_pos hc31) ?_
      refine Rx_rd (g_chk6 hw) ?_
      refine Rx_rd (g_ca hw) ?_
      exact Rx_neg (by rw [nI_ltI (by omega) (by omega)]; exact hc) (Rx_thr ⟨rfl, κ, hw.thr⟩)
    · unfold p_X6_share
      rw [nL_0]
      refine Rx_set (t_code hw) (fun w1 hw1 => ?_)
      refine Rx_neg (nI_pos hc31) ?_
      refine Rx_rd (h_ca hw1) ?_
      exact Rx_neg (by rw [nI_ltI (by omega) (by omega)]; exact hc) (failN _ _ _ _ _ (hm.code 0) hw1)
end SHARE
