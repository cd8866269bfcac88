/-! what the class's store and the reference's store hold of a day; running over such stores -/
def eL (v : Int32) : Nat := v.toBitVec.toNat
def dL (n : Nat) : Int32 := nI n
theorem dL_eL (v : Int32) : dL (eL v) = v := by
  refine Int32.toBitVec_inj.mp ?_
  show (Int32.ofNat v.toBitVec.toNat).toBitVec = v.toBitVec
  simp
def m1 (n : Nat) : Int32 := if n = 0 then -1 else nI (n - 1)
theorem m1_0 : m1 0 = -1 := rfl
theorem m1_s (n : Nat) : m1 (n + 1) = nI n := by simp [m1]
theorem m1_neg {n : Nat} (h : n < 2 ^ 31) : m1 n = -1 ↔ n = 0 := by
  unfold m1
  by_cases q : n = 0
  · simp [q]
  · rw [if_neg q]
    exact ⟨fun e => absurd e (m1_lt _ (by omega)), fun e => absurd e q⟩
theorem m1_pos {n : Nat} (h : 0 < n) : m1 n = nI (n - 1) := if_neg (by omega)
/-- what a way (2b there, 2b + 1 back) is to do -/
def fromS (σ : SG) (w : Nat) : Nat := if w % 2 = 0 then σ 8 (w / 2) 0 else σ 8 (w / 2) 3
def wfromS (σ : SG) (w : Nat) : Nat := if w % 2 = 0 then σ 8 (w / 2) 1 else σ 8 (w / 2) 4
def readyS (σ : SG) (w : Nat) : Nat := if w % 2 = 0 then σ 8 (w / 2) 2 else σ 8 (w / 2) 7
def toS (σ : SG) (w : Nat) : Nat := if w % 2 = 0 then σ 8 (w / 2) 3 else σ 8 (w / 2) 0
def wtoS (σ : SG) (w : Nat) : Nat := if w % 2 = 0 then σ 8 (w / 2) 4 else σ 8 (w / 2) 1
def dueS (σ : SG) (w : Nat) : Nat := if w % 2 = 0 then σ 8 (w / 2) 5 else 1439
def okW (σ : SG) (w : Nat) : Prop := w / 2 < σ 0 3 0 ∧ (w % 2 = 0 ∨ σ 8 (w / 2) 6 ≠ 0)
def CR (σ κ : SG) (F A : F3) : Prop :=
  (σ 0 2 0 ≤ 16 ∧ σ 0 3 0 ≤ 60 ∧ ∀ b, σ 8 b 6 ≤ 1) ∧
  (F 3 0 1 = nI (σ 0 1 0)) ∧
  (F 0 0 2 = nI (σ 0 2 0)) ∧
  (F 0 1 2 = nI (σ 0 3 0)) ∧
  (F 2 0 1 = nI (σ 0 4 0)) ∧
  (F 6 0 4 = nI (σ 0 0 0)) ∧
  (∀ i : Nat, A 0 0 i = nI (σ 1 i 0)) ∧
  (∀ t : Nat, F 4 t 0 = nI (σ 2 t 0)) ∧
  (∀ t : Nat, F 4 t 4 = nI (σ 3 t 0)) ∧
  (∀ t : Nat, F 4 t 5 = nI (σ 4 t 0)) ∧
  (∀ t k : Nat, A 5 t k = nI (σ 5 t k)) ∧
  (∀ t k : Nat, A 6 t k = nI (σ 6 t k)) ∧
  (∀ t k : Nat, A 7 t k = dL (σ 7 t k)) ∧
  (∀ b : Nat, F 1 b 1 = nI (σ 8 b 6)) ∧
  (∀ w : Nat, F 5 w 0 = nI (fromS σ w)) ∧
  (∀ w : Nat, F 5 w 1 = nI (wfromS σ w)) ∧
  (∀ w : Nat, F 5 w 2 = nI (readyS σ w)) ∧
  (∀ w : Nat, F 5 w 3 = nI (toS σ w)) ∧
  (∀ w : Nat, F 5 w 4 = nI (wtoS σ w)) ∧
  (∀ w : Nat, F 5 w 5 = nI (dueS σ w)) ∧
  (∀ w : Nat, F 5 w 7 = nI (σ 9 w 2)) ∧
  (∀ w : Nat, F 5 w 8 = nI (σ 9 w 0)) ∧
  (∀ w : Nat, F 5 w 9 = m1 (σ 9 w 5)) ∧
  (∀ w : Nat, F 5 w 10 = m1 (σ 9 w 3)) ∧
  (∀ w : Nat, F 5 w 11 = (if σ 9 w 3 = 0 then -1 else nI (σ 9 w 4))) ∧
  (∀ w : Nat, F 5 w 12 = nI (κ 3 w 0)) ∧
  (∀ w j : Nat, A 8 w j = nI (σ 10 w j)) ∧
  (∀ i : Nat, A 1 0 i = nI (σ 11 i 0)) ∧
  (∀ l i : Nat, A 3 l i = nI (κ 0 l i)) ∧
  (∀ l i : Nat, A 4 l i = m1 (κ 1 l i)) ∧
  (∀ i : Nat, A 2 0 i = m1 (κ 2 0 i))
def MR (τ μ : SG) (F A : F3) : Prop :=
  (F 7 0 0 = nI (μ 5 0 0)) ∧
  (F 7 0 1 = nI (τ 0 0 0)) ∧
  (F 7 0 2 = nI (τ 0 1 0)) ∧
  (F 7 0 3 = nI (τ 0 2 0)) ∧
  (F 7 0 4 = nI (τ 0 3 0)) ∧
  (F 7 0 5 = nI (τ 0 4 0)) ∧
  (∀ i : Nat, A 9 6 i = nI (τ 1 i 0)) ∧
  (∀ t : Nat, A 9 7 t = nI (τ 2 t 0)) ∧
  (∀ t : Nat, A 9 8 t = nI (τ 3 t 0)) ∧
  (∀ t k : Nat, k < 10 → A 9 9 (10 * t + k) = nI (τ 5 t k)) ∧
  (∀ t k : Nat, k < 10 → A 9 10 (10 * t + k) = nI (τ 6 t k)) ∧
  (∀ t k : Nat, k < 10 → A 9 11 (10 * t + k) = dL (τ 7 t k)) ∧
  (∀ i : Nat, A 9 12 i = nI (τ 11 i 0)) ∧
  (∀ t : Nat, A 9 13 t = nI (τ 4 t 0)) ∧
  (∀ b : Nat, A 9 14 b = nI (τ 8 b 0)) ∧
  (∀ b : Nat, A 9 15 b = nI (τ 8 b 1)) ∧
  (∀ b : Nat, A 9 16 b = nI (τ 8 b 2)) ∧
  (∀ b : Nat, A 9 17 b = nI (τ 8 b 3)) ∧
  (∀ b : Nat, A 9 18 b = nI (τ 8 b 4)) ∧
  (∀ b : Nat, A 9 19 b = nI (τ 8 b 5)) ∧
  (∀ b : Nat, A 9 20 b = nI (τ 8 b 7)) ∧
  (∀ b : Nat, A 9 21 b = nI (τ 8 b 6)) ∧
  (∀ w : Nat, A 9 22 w = nI (τ 9 w 0)) ∧
  (∀ w : Nat, A 9 23 w = nI (if τ 9 w 5 = 0 then 0 else 1)) ∧
  (∀ w : Nat, A 9 24 w = nI (τ 9 w 2)) ∧
  (∀ w : Nat, A 9 25 w = m1 (τ 9 w 3)) ∧
  (∀ w : Nat, τ 9 w 3 ≠ 0 → A 9 26 w = nI (τ 9 w 4)) ∧
  (∀ w i : Nat, i < 3 → A 9 27 (3 * w + i) = nI (τ 10 w (3 * i))) ∧
  (∀ w i : Nat, i < 3 → A 9 28 (3 * w + i) = nI (τ 10 w (3 * i + 1))) ∧
  (∀ w i : Nat, i < 3 → A 9 29 (3 * w + i) = nI (τ 10 w (3 * i + 2))) ∧
  (∀ n : Nat, A 9 30 n = nI (μ 0 n 0)) ∧
  (∀ n : Nat, A 9 31 n = nI (μ 1 n 0)) ∧
  (F 7 0 32 = nI (μ 2 0 0)) ∧
  (F 7 0 33 = nI (μ 2 1 0)) ∧
  (F 7 0 34 = m1 (μ 2 2 0)) ∧
  (F 7 0 35 = nI (μ 2 3 0)) ∧
  (F 7 0 36 = nI (μ 2 4 0)) ∧
  (∀ b : Nat, A 9 37 b = nI (μ 3 b 0))
theorem CR.st {σ κ : SG} {F A : F3} (h : CR σ κ F A) : F 3 0 1 = nI (σ 0 1 0) := h.2.1
theorem CR.tr {σ κ : SG} {F A : F3} (h : CR σ κ F A) : F 0 0 2 = nI (σ 0 2 0) := h.2.2.1
theorem CR.bx {σ κ : SG} {F A : F3} (h : CR σ κ F A) : F 0 1 2 = nI (σ 0 3 0) := h.2.2.2.1
theorem CR.ca {σ κ : SG} {F A : F3} (h : CR σ κ F A) : F 2 0 1 = nI (σ 0 4 0) := h.2.2.2.2.1
theorem CR.now {σ κ : SG} {F A : F3} (h : CR σ κ F A) : F 6 0 4 = nI (σ 0 0 0) := h.2.2.2.2.2.1
theorem CR.sort {σ κ : SG} {F A : F3} (h : CR σ κ F A) : ∀ i : Nat, A 0 0 i = nI (σ 1 i 0) := h.2.2.2.2.2.2.1
theorem CR.room {σ κ : SG} {F A : F3} (h : CR σ κ F A) : ∀ t : Nat, F 4 t 0 = nI (σ 2 t 0) := h.2.2.2.2.2.2.2.1
theorem CR.stops {σ κ : SG} {F A : F3} (h : CR σ κ F A) : ∀ t : Nat, F 4 t 4 = nI (σ 3 t 0) := h.2.2.2.2.2.2.2.2.1
theorem CR.canc {σ κ : SG} {F A : F3} (h : CR σ κ F A) : ∀ t : Nat, F 4 t 5 = nI (σ 4 t 0) := h.2.2.2.2.2.2.2.2.2.1
theorem CR.sta {σ κ : SG} {F A : F3} (h : CR σ κ F A) : ∀ t k : Nat, A 5 t k = nI (σ 5 t k) := h.2.2.2.2.2.2.2.2.2.2.1
theorem CR.min {σ κ : SG} {F A : F3} (h : CR σ κ F A) : ∀ t k : Nat, A 6 t k = nI (σ 6 t k) := h.2.2.2.2.2.2.2.2.2.2.2.1
theorem CR.load {σ κ : SG} {F A : F3} (h : CR σ κ F A) : ∀ t k : Nat, A 7 t k = dL (σ 7 t k) := h.2.2.2.2.2.2.2.2.2.2.2.2.1
theorem CR.emp {σ κ : SG} {F A : F3} (h : CR σ κ F A) : ∀ b : Nat, F 1 b 1 = nI (σ 8 b 6) := h.2.2.2.2.2.2.2.2.2.2.2.2.2.1
theorem CR.from {σ κ : SG} {F A : F3} (h : CR σ κ F A) : ∀ w : Nat, F 5 w 0 = nI (fromS σ w) := h.2.2.2.2.2.2.2.2.2.2.2.2.2.2.1
theorem CR.wfrom {σ κ : SG} {F A : F3} (h : CR σ κ F A) : ∀ w : Nat, F 5 w 1 = nI (wfromS σ w) := h.2.2.2.2.2.2.2.2.2.2.2.2.2.2.2.1
theorem CR.ready {σ κ : SG} {F A : F3} (h : CR σ κ F A) : ∀ w : Nat, F 5 w 2 = nI (readyS σ w) := h.2.2.2.2.2.2.2.2.2.2.2.2.2.2.2.2.1
theorem CR.to {σ κ : SG} {F A : F3} (h : CR σ κ F A) : ∀ w : Nat, F 5 w 3 = nI (toS σ w) := h.2.2.2.2.2.2.2.2.2.2.2.2.2.2.2.2.2.1
theorem CR.wto {σ κ : SG} {F A : F3} (h : CR σ κ F A) : ∀ w : Nat, F 5 w 4 = nI (wtoS σ w) := h.2.2.2.2.2.2.2.2.2.2.2.2.2.2.2.2.2.2.1
theorem CR.due {σ κ : SG} {F A : F3} (h : CR σ κ F A) : ∀ w : Nat, F 5 w 5 = nI (dueS σ w) := h.2.2.2.2.2.2.2.2.2.2.2.2.2.2.2.2.2.2.2.1
theorem CR.many {σ κ : SG} {F A : F3} (h : CR σ κ F A) : ∀ w : Nat, F 5 w 7 = nI (σ 9 w 2) := h.2.2.2.2.2.2.2.2.2.2.2.2.2.2.2.2.2.2.2.2.1
theorem CR.had {σ κ : SG} {F A : F3} (h : CR σ κ F A) : ∀ w : Nat, F 5 w 8 = nI (σ 9 w 0) := h.2.2.2.2.2.2.2.2.2.2.2.2.2.2.2.2.2.2.2.2.2.1
theorem CR.there {σ κ : SG} {F A : F3} (h : CR σ κ F A) : ∀ w : Nat, F 5 w 9 = m1 (σ 9 w 5) := h.2.2.2.2.2.2.2.2.2.2.2.2.2.2.2.2.2.2.2.2.2.2.1
theorem CR.stands {σ κ : SG} {F A : F3} (h : CR σ κ F A) : ∀ w : Nat, F 5 w 10 = m1 (σ 9 w 3) := h.2.2.2.2.2.2.2.2.2.2.2.2.2.2.2.2.2.2.2.2.2.2.2.1
theorem CR.since {σ κ : SG} {F A : F3} (h : CR σ κ F A) : ∀ w : Nat, F 5 w 11 = (if σ 9 w 3 = 0 then -1 else nI (σ 9 w 4)) := h.2.2.2.2.2.2.2.2.2.2.2.2.2.2.2.2.2.2.2.2.2.2.2.2.1
theorem CR.off {σ κ : SG} {F A : F3} (h : CR σ κ F A) : ∀ w : Nat, F 5 w 12 = nI (κ 3 w 0) := h.2.2.2.2.2.2.2.2.2.2.2.2.2.2.2.2.2.2.2.2.2.2.2.2.2.1
theorem CR.leg {σ κ : SG} {F A : F3} (h : CR σ κ F A) : ∀ w j : Nat, A 8 w j = nI (σ 10 w j) := h.2.2.2.2.2.2.2.2.2.2.2.2.2.2.2.2.2.2.2.2.2.2.2.2.2.2.1
theorem CR.days {σ κ : SG} {F A : F3} (h : CR σ κ F A) : ∀ i : Nat, A 1 0 i = nI (σ 11 i 0) := h.2.2.2.2.2.2.2.2.2.2.2.2.2.2.2.2.2.2.2.2.2.2.2.2.2.2.2.1
theorem CR.earl {σ κ : SG} {F A : F3} (h : CR σ κ F A) : ∀ l i : Nat, A 3 l i = nI (κ 0 l i) := h.2.2.2.2.2.2.2.2.2.2.2.2.2.2.2.2.2.2.2.2.2.2.2.2.2.2.2.2.1
theorem CR.late {σ κ : SG} {F A : F3} (h : CR σ κ F A) : ∀ l i : Nat, A 4 l i = m1 (κ 1 l i) := h.2.2.2.2.2.2.2.2.2.2.2.2.2.2.2.2.2.2.2.2.2.2.2.2.2.2.2.2.2.1
theorem CR.marks {σ κ : SG} {F A : F3} (h : CR σ κ F A) : ∀ i : Nat, A 2 0 i = m1 (κ 2 0 i) := h.2.2.2.2.2.2.2.2.2.2.2.2.2.2.2.2.2.2.2.2.2.2.2.2.2.2.2.2.2.2
theorem MR.code {τ μ : SG} {F A : F3} (h : MR τ μ F A) : F 7 0 0 = nI (μ 5 0 0) := h.1
theorem MR.now {τ μ : SG} {F A : F3} (h : MR τ μ F A) : F 7 0 1 = nI (τ 0 0 0) := h.2.1
theorem MR.st {τ μ : SG} {F A : F3} (h : MR τ μ F A) : F 7 0 2 = nI (τ 0 1 0) := h.2.2.1
theorem MR.tr {τ μ : SG} {F A : F3} (h : MR τ μ F A) : F 7 0 3 = nI (τ 0 2 0) := h.2.2.2.1
theorem MR.bx {τ μ : SG} {F A : F3} (h : MR τ μ F A) : F 7 0 4 = nI (τ 0 3 0) := h.2.2.2.2.1
theorem MR.ca {τ μ : SG} {F A : F3} (h : MR τ μ F A) : F 7 0 5 = nI (τ 0 4 0) := h.2.2.2.2.2.1
theorem MR.sort {τ μ : SG} {F A : F3} (h : MR τ μ F A) : ∀ i : Nat, A 9 6 i = nI (τ 1 i 0) := h.2.2.2.2.2.2.1
theorem MR.room {τ μ : SG} {F A : F3} (h : MR τ μ F A) : ∀ t : Nat, A 9 7 t = nI (τ 2 t 0) := h.2.2.2.2.2.2.2.1
theorem MR.stops {τ μ : SG} {F A : F3} (h : MR τ μ F A) : ∀ t : Nat, A 9 8 t = nI (τ 3 t 0) := h.2.2.2.2.2.2.2.2.1
theorem MR.sta {τ μ : SG} {F A : F3} (h : MR τ μ F A) : ∀ t k : Nat, k < 10 → A 9 9 (10 * t + k) = nI (τ 5 t k) := h.2.2.2.2.2.2.2.2.2.1
theorem MR.min {τ μ : SG} {F A : F3} (h : MR τ μ F A) : ∀ t k : Nat, k < 10 → A 9 10 (10 * t + k) = nI (τ 6 t k) := h.2.2.2.2.2.2.2.2.2.2.1
theorem MR.load {τ μ : SG} {F A : F3} (h : MR τ μ F A) : ∀ t k : Nat, k < 10 → A 9 11 (10 * t + k) = dL (τ 7 t k) := h.2.2.2.2.2.2.2.2.2.2.2.1
theorem MR.days {τ μ : SG} {F A : F3} (h : MR τ μ F A) : ∀ i : Nat, A 9 12 i = nI (τ 11 i 0) := h.2.2.2.2.2.2.2.2.2.2.2.2.1
theorem MR.canc {τ μ : SG} {F A : F3} (h : MR τ μ F A) : ∀ t : Nat, A 9 13 t = nI (τ 4 t 0) := h.2.2.2.2.2.2.2.2.2.2.2.2.2.1
theorem MR.home {τ μ : SG} {F A : F3} (h : MR τ μ F A) : ∀ b : Nat, A 9 14 b = nI (τ 8 b 0) := h.2.2.2.2.2.2.2.2.2.2.2.2.2.2.1
theorem MR.walk {τ μ : SG} {F A : F3} (h : MR τ μ F A) : ∀ b : Nat, A 9 15 b = nI (τ 8 b 1) := h.2.2.2.2.2.2.2.2.2.2.2.2.2.2.2.1
theorem MR.ready {τ μ : SG} {F A : F3} (h : MR τ μ F A) : ∀ b : Nat, A 9 16 b = nI (τ 8 b 2) := h.2.2.2.2.2.2.2.2.2.2.2.2.2.2.2.2.1
theorem MR.desk {τ μ : SG} {F A : F3} (h : MR τ μ F A) : ∀ b : Nat, A 9 17 b = nI (τ 8 b 3) := h.2.2.2.2.2.2.2.2.2.2.2.2.2.2.2.2.2.1
theorem MR.walkT {τ μ : SG} {F A : F3} (h : MR τ μ F A) : ∀ b : Nat, A 9 18 b = nI (τ 8 b 4) := h.2.2.2.2.2.2.2.2.2.2.2.2.2.2.2.2.2.2.1
theorem MR.due {τ μ : SG} {F A : F3} (h : MR τ μ F A) : ∀ b : Nat, A 9 19 b = nI (τ 8 b 5) := h.2.2.2.2.2.2.2.2.2.2.2.2.2.2.2.2.2.2.2.1
theorem MR.rback {τ μ : SG} {F A : F3} (h : MR τ μ F A) : ∀ b : Nat, A 9 20 b = nI (τ 8 b 7) := h.2.2.2.2.2.2.2.2.2.2.2.2.2.2.2.2.2.2.2.2.1
theorem MR.emp {τ μ : SG} {F A : F3} (h : MR τ μ F A) : ∀ b : Nat, A 9 21 b = nI (τ 8 b 6) := h.2.2.2.2.2.2.2.2.2.2.2.2.2.2.2.2.2.2.2.2.2.1
theorem MR.had {τ μ : SG} {F A : F3} (h : MR τ μ F A) : ∀ w : Nat, A 9 22 w = nI (τ 9 w 0) := h.2.2.2.2.2.2.2.2.2.2.2.2.2.2.2.2.2.2.2.2.2.2.1
theorem MR.has {τ μ : SG} {F A : F3} (h : MR τ μ F A) : ∀ w : Nat, A 9 23 w = nI (if τ 9 w 5 = 0 then 0 else 1) := h.2.2.2.2.2.2.2.2.2.2.2.2.2.2.2.2.2.2.2.2.2.2.2.1
theorem MR.many {τ μ : SG} {F A : F3} (h : MR τ μ F A) : ∀ w : Nat, A 9 24 w = nI (τ 9 w 2) := h.2.2.2.2.2.2.2.2.2.2.2.2.2.2.2.2.2.2.2.2.2.2.2.2.1
theorem MR.stands {τ μ : SG} {F A : F3} (h : MR τ μ F A) : ∀ w : Nat, A 9 25 w = m1 (τ 9 w 3) := h.2.2.2.2.2.2.2.2.2.2.2.2.2.2.2.2.2.2.2.2.2.2.2.2.2.1
theorem MR.since {τ μ : SG} {F A : F3} (h : MR τ μ F A) : ∀ w : Nat, τ 9 w 3 ≠ 0 → A 9 26 w = nI (τ 9 w 4) := h.2.2.2.2.2.2.2.2.2.2.2.2.2.2.2.2.2.2.2.2.2.2.2.2.2.2.1
theorem MR.legT {τ μ : SG} {F A : F3} (h : MR τ μ F A) : ∀ w i : Nat, i < 3 → A 9 27 (3 * w + i) = nI (τ 10 w (3 * i)) := h.2.2.2.2.2.2.2.2.2.2.2.2.2.2.2.2.2.2.2.2.2.2.2.2.2.2.2.1
theorem MR.legN {τ μ : SG} {F A : F3} (h : MR τ μ F A) : ∀ w i : Nat, i < 3 → A 9 28 (3 * w + i) = nI (τ 10 w (3 * i + 1)) := h.2.2.2.2.2.2.2.2.2.2.2.2.2.2.2.2.2.2.2.2.2.2.2.2.2.2.2.2.1
theorem MR.legF {τ μ : SG} {F A : F3} (h : MR τ μ F A) : ∀ w i : Nat, i < 3 → A 9 29 (3 * w + i) = nI (τ 10 w (3 * i + 2)) := h.2.2.2.2.2.2.2.2.2.2.2.2.2.2.2.2.2.2.2.2.2.2.2.2.2.2.2.2.2.1
theorem MR.early {τ μ : SG} {F A : F3} (h : MR τ μ F A) : ∀ n : Nat, A 9 30 n = nI (μ 0 n 0) := h.2.2.2.2.2.2.2.2.2.2.2.2.2.2.2.2.2.2.2.2.2.2.2.2.2.2.2.2.2.2.1
theorem MR.few {τ μ : SG} {F A : F3} (h : MR τ μ F A) : ∀ n : Nat, A 9 31 n = nI (μ 1 n 0) := h.2.2.2.2.2.2.2.2.2.2.2.2.2.2.2.2.2.2.2.2.2.2.2.2.2.2.2.2.2.2.2.1
theorem MR.bT {τ μ : SG} {F A : F3} (h : MR τ μ F A) : F 7 0 32 = nI (μ 2 0 0) := h.2.2.2.2.2.2.2.2.2.2.2.2.2.2.2.2.2.2.2.2.2.2.2.2.2.2.2.2.2.2.2.2.1
theorem MR.bL {τ μ : SG} {F A : F3} (h : MR τ μ F A) : F 7 0 33 = nI (μ 2 1 0) := h.2.2.2.2.2.2.2.2.2.2.2.2.2.2.2.2.2.2.2.2.2.2.2.2.2.2.2.2.2.2.2.2.2.1
theorem MR.bt {τ μ : SG} {F A : F3} (h : MR τ μ F A) : F 7 0 34 = m1 (μ 2 2 0) := h.2.2.2.2.2.2.2.2.2.2.2.2.2.2.2.2.2.2.2.2.2.2.2.2.2.2.2.2.2.2.2.2.2.2.1
theorem MR.bon {τ μ : SG} {F A : F3} (h : MR τ μ F A) : F 7 0 35 = nI (μ 2 3 0) := h.2.2.2.2.2.2.2.2.2.2.2.2.2.2.2.2.2.2.2.2.2.2.2.2.2.2.2.2.2.2.2.2.2.2.2.1
theorem MR.boff {τ μ : SG} {F A : F3} (h : MR τ μ F A) : F 7 0 36 = nI (μ 2 4 0) := h.2.2.2.2.2.2.2.2.2.2.2.2.2.2.2.2.2.2.2.2.2.2.2.2.2.2.2.2.2.2.2.2.2.2.2.2.1
theorem MR.gives {τ μ : SG} {F A : F3} (h : MR τ μ F A) : ∀ b : Nat, A 9 37 b = nI (μ 3 b 0) := h.2.2.2.2.2.2.2.2.2.2.2.2.2.2.2.2.2.2.2.2.2.2.2.2.2.2.2.2.2.2.2.2.2.2.2.2.2
theorem CR.bd {σ κ : SG} {F A : F3} (h : CR σ κ F A) : σ 0 2 0 ≤ 16 ∧ σ 0 3 0 ≤ 60 ∧ ∀ b, σ 8 b 6 ≤ 1 := h.1
abbrev BB : Type := Nat × Nat × Int64
def Wd (σ κ τ μ : SG) (z : BB) (w : PS) : Prop := (w.1 = z.1 ∧ w.2.1 = z.2.1 ∧ w.2.2.2.2 = z.2.2) ∧ CR σ κ w.2.2.1 w.2.2.2.1 ∧ MR τ μ w.2.2.1 w.2.2.2.1
theorem MR.frame {τ μ : SG} {F A F' A' : F3} (h : MR τ μ F A) (hF : ∀ k, F' 7 0 k = F 7 0 k) (hA : ∀ i j, A' 9 i j = A 9 i j) : MR τ μ F' A' := by
  unfold MR at h ⊢
  simp only [hF, hA]
  exact h
theorem CR.frame {σ κ : SG} {F A F' A' : F3} (h : CR σ κ F A) (hF : ∀ c i k, c ≠ 7 → F' c i k = F c i k) (hA : ∀ c i j, c ≠ 9 → A' c i j = A c i j) : CR σ κ F' A' := by
  have f0 := fun i k => hF 0 i k (by decide)
  have f1 := fun i k => hF 1 i k (by decide)
  have f2 := fun i k => hF 2 i k (by decide)
  have f3 := fun i k => hF 3 i k (by decide)
  have f4 := fun i k => hF 4 i k (by decide)
  have f5 := fun i k => hF 5 i k (by decide)
  have f6 := fun i k => hF 6 i k (by decide)
  have a0 := fun i k => hA 0 i k (by decide)
  have a1 := fun i k => hA 1 i k (by decide)
  have a2 := fun i k => hA 2 i k (by decide)
  have a3 := fun i k => hA 3 i k (by decide)
  have a4 := fun i k => hA 4 i k (by decide)
  have a5 := fun i k => hA 5 i k (by decide)
  have a6 := fun i k => hA 6 i k (by decide)
  have a7 := fun i k => hA 7 i k (by decide)
  have a8 := fun i k => hA 8 i k (by decide)
  unfold CR at h ⊢
  simp only [f0, f1, f2, f3, f4, f5, f6, a0, a1, a2, a3, a4, a5, a6, a7, a8]
  exact h
section VAL
variable {σ κ τ μ : SG} {z : BB} {w : PS}
theorem Wd.cr (h : Wd σ κ τ μ z w) : CR σ κ w.2.2.1 w.2.2.2.1 := h.2.1
theorem Wd.mr (h : Wd σ κ τ μ z w) : MR τ μ w.2.2.1 w.2.2.2.1 := h.2.2
theorem Wd.eT (h : Wd σ κ τ μ z w) : nT w.2.2.1 = σ 0 2 0 := by
  have := h.cr.bd
  unfold nT
  rw [h.cr.tr, nI_clamp (by omega)]
theorem Wd.eB (h : Wd σ κ τ μ z w) : nB w.2.2.1 = σ 0 3 0 := by
  have := h.cr.bd
  unfold nB
  rw [h.cr.bx, nI_clamp (by omega)]
theorem Wd.v0 (_ : Wd σ κ τ μ z w) {j : Nat} (hj : j < 2) : val w.2.2.1 0 j = true := by simp [val, hj]
theorem Wd.v1 (h : Wd σ κ τ μ z w) {b : Nat} (hb : b < σ 0 3 0) : val w.2.2.1 1 b = true := by simp [val, h.eB, hb]
theorem Wd.v2 (_ : Wd σ κ τ μ z w) : val w.2.2.1 2 0 = true := rfl
theorem Wd.v3 (_ : Wd σ κ τ μ z w) : val w.2.2.1 3 0 = true := rfl
theorem Wd.v4 (h : Wd σ κ τ μ z w) {t : Nat} (ht : t < σ 0 2 0) : val w.2.2.1 4 t = true := by simp [val, h.eT, ht]
theorem Wd.e1 (h : Wd σ κ τ μ z w) {b : Nat} : w.2.2.1 1 b 1 = 0 ↔ σ 8 b 6 = 0 := by
  rw [h.cr.emp, ← nI_0, nI_eq (by have := h.cr.bd.2.2 b; omega) (by omega)]
theorem Wd.v5 (h : Wd σ κ τ μ z w) {i : Nat} (hi : okW σ i) : val w.2.2.1 5 i = true := by
  have e1 := h.e1 (b := i / 2)
  have h1 := hi.1
  have h2 := hi.2
  simp only [val, h.eB, h1, decide_true, Bool.true_and, Bool.or_eq_true, decide_eq_true_eq]
  rcases h2 with q | q
  · exact Or.inl q
  · exact Or.inr (fun e => q (e1.mp e))
theorem Wd.v6 (_ : Wd σ κ τ μ z w) : val w.2.2.1 6 0 = true := rfl
theorem Wd.v7 (_ : Wd σ κ τ μ z w) : val w.2.2.1 7 0 = true := rfl
end VAL
/-- it runs: to an answer of which Q speaks, or to a throw of which E speaks -/
def Rx {α : Type} (m : PM α) (w : PS) (Q : α → PS → Prop) (E : String → PS → Prop) : Prop := ∃ y w', m w = some (y, w') ∧ (match y with | .inl a => Q a w' | .inr e => E e w')
def NE : String → PS → Prop := fun _ _ => False
section RX
variable {α β : Type} {w w' : PS} {Q : α → PS → Prop} {E : String → PS → Prop}
theorem Rx_rt {a : α} (h : Q a w) : Rx (prt a) w Q E := ⟨_, _, rfl, h⟩
theorem Rx_rtZ0 {Q : Int32 → PS → Prop} (h : Q 0 w) : Rx (prtZ (0 : Int32)) w Q E := ⟨.inl 0, w, by simp [prtZ], h⟩
theorem Rx_rtZ1 {Q : Int32 → PS → Prop} (h : Q 1 w) : Rx (prtZ (1 : Int32)) w Q E := ⟨.inl 1, w, by simp [prtZ], h⟩
theorem Rx_rtZ {Q : Int32 → PS → Prop} {v : Int32} (hv : v = 0 ∨ v = 1) (h : Q v w) : Rx (prtZ v) w Q E := ⟨.inl v, w, by simp [prtZ, hv], h⟩
theorem Rx_thr {e : String} (h : E e (w.1 + 1, w.2.1 + 6, w.2.2)) : Rx (pthr e : PM α) w Q E := ⟨_, _, rfl, h⟩
theorem Rx_bnd {m : PM β} {f : β → PM α} (h : Rx m w (fun a w1 => Rx (f a) w1 Q E) E) : Rx (pbnd m f) w Q E := by
  obtain ⟨y, w1, e, hy⟩ := h
  cases y with
  | inl a =>
    obtain ⟨z, w2, e2, h2⟩ := hy
    exact ⟨z, w2, by simp only [pbnd, e]; exact e2, h2⟩
  | inr E => exact ⟨.inr E, w1, by simp only [pbnd, e], hy⟩
theorem Rx_if {c : Prop} [Decidable c] {P1 P2 : PM α} (h1 : c → Rx P1 w Q E) (h2 : ¬ c → Rx P2 w Q E) : Rx (if c then P1 else P2) w Q E := by
  by_cases hc : c
  · rw [if_pos hc]; exact h1 hc
  · rw [if_neg hc]; exact h2 hc
theorem Rx_pos {c : Prop} [Decidable c] {P1 P2 : PM α} (hc : c) (h1 : Rx P1 w Q E) : Rx (if c then P1 else P2) w Q E := by rw [if_pos hc]; exact h1
theorem Rx_neg {c : Prop} [Decidable c] {P1 P2 : PM α} (hc : ¬ c) (h1 : Rx P2 w Q E) : Rx (if c then P1 else P2) w Q E := by rw [if_neg hc]; exact h1
theorem Rx_mono {m : PM α} {Q' : α → PS → Prop} {E' : String → PS → Prop} (h : Rx m w Q' E') (hq : ∀ a w', Q' a w' → Q a w') (he : ∀ e w', E' e w' → E e w') : Rx m w Q E := by
  obtain ⟨y, w', e, hy⟩ := h
  cases y with
  | inl a => exact ⟨_, w', e, hq _ _ hy⟩
  | inr a => exact ⟨_, w', e, he _ _ hy⟩
theorem Rx_eq {m : PM α} {v : α} (e : m w = some (.inl v, w')) (h : Q v w') : Rx m w Q E := ⟨.inl v, w', e, h⟩
theorem Rx_rd {m : PM β} {f : β → PM α} {v : β} (e : m w = some (.inl v, w')) (h : Rx (f v) w' Q E) : Rx (pbnd m f) w Q E := Rx_bnd ⟨.inl v, w', e, h⟩
theorem Rx_call {m : PM β} {f : β → PM α} {Q' : β → PS → Prop} {E' : String → PS → Prop} (h : Rx m w Q' E') (k : ∀ a w', Q' a w' → Rx (f a) w' Q E) (he : ∀ e w', E' e w' → E e w') : Rx (pbnd m f) w Q E := Rx_bnd (Rx_mono h k he)
theorem Rx_cn {m : PM β} {f : β → PM α} {Q' : β → PS → Prop} (h : Rx m w Q' NE) (k : ∀ a w', Q' a w' → Rx (f a) w' Q E) : Rx (pbnd m f) w Q E := Rx_bnd (Rx_mono h k (fun _ _ q => q.elim))
theorem Rx_tn {m : PM α} {Q' : α → PS → Prop} (h : Rx m w Q' NE) (k : ∀ a w', Q' a w' → Q a w') : Rx m w Q E := Rx_mono h k (fun _ _ q => q.elim)
/-- an answer that leaves the store as it was -/
theorem Rx_un {m : PM α} {v : α} (h : Rx m w (fun a w' => a = v ∧ w' = w) NE) : m w = some (.inl v, w) := by
  obtain ⟨y, w', e, hy⟩ := h
  cases y with
  | inl a => obtain ⟨rfl, rfl⟩ := hy; exact e
  | inr a => exact hy.elim
theorem pbnd_eq {m : PM β} {f : β → PM α} {v : β} (e : m w = some (.inl v, w')) : pbnd m f w = f v w' := by simp only [pbnd, e]
end RX
section GET
variable {σ κ τ μ : SG} {z : BB} {w : PS}
theorem g_chk {c i : Nat} (h : val w.2.2.1 c i = true) : pchk c i w = some (.inl (), w) := if_pos h
theorem g_chk0 (hw : Wd σ κ τ μ z w) : pchk 0 0 w = some (.inl (), w) := if_pos (hw.v0 (by omega))
theorem g_chk01 (hw : Wd σ κ τ μ z w) : pchk 0 1 w = some (.inl (), w) := if_pos (hw.v0 (by omega))
theorem g_chk1 (hw : Wd σ κ τ μ z w) {b : Nat} (hb : b < σ 0 3 0) : pchk 1 b w = some (.inl (), w) := if_pos (hw.v1 hb)
theorem g_chk2 (hw : Wd σ κ τ μ z w) : pchk 2 0 w = some (.inl (), w) := if_pos hw.v2
theorem g_chk3 (hw : Wd σ κ τ μ z w) : pchk 3 0 w = some (.inl (), w) := if_pos hw.v3
theorem g_chk4 (hw : Wd σ κ τ μ z w) {t : Nat} (hb : t < σ 0 2 0) : pchk 4 t w = some (.inl (), w) := if_pos (hw.v4 hb)
theorem g_chk5 (hw : Wd σ κ τ μ z w) {t : Nat} (hb : okW σ t) : pchk 5 t w = some (.inl (), w) := if_pos (hw.v5 hb)
theorem g_chk6 (hw : Wd σ κ τ μ z w) : pchk 6 0 w = some (.inl (), w) := if_pos hw.v6
theorem g_chk7 (hw : Wd σ κ τ μ z w) : pchk 7 0 w = some (.inl (), w) := if_pos hw.v7
theorem g_siz0 (hw : Wd σ κ τ μ z w) : (pbnd (pchk 0 0) fun _ => psiz 0) w = some (.inl (nI (σ 0 2 0)), w) := by rw [pbnd_eq (g_chk0 hw)]; show some ((Sum.inl (w.2.2.1 0 0 2) : Int32 ⊕ String), w) = _; rw [hw.cr.tr]
theorem g_siz1 (hw : Wd σ κ τ μ z w) : (pbnd (pchk 0 1) fun _ => psiz 1) w = some (.inl (nI (σ 0 3 0)), w) := by rw [pbnd_eq (g_chk01 hw)]; show some ((Sum.inl (w.2.2.1 0 1 2) : Int32 ⊕ String), w) = _; rw [hw.cr.bx]
theorem g_get0 (hw : Wd σ κ τ μ z w) {i : Nat} (hi : i < σ 0 2 0) : (pbnd (pchk 0 0) fun _ => pget 0 (nI i)) w = some (.inl (), w) := by
  rw [pbnd_eq (g_chk0 hw)]
  have := hw.cr.bd
  refine if_pos ?_
  show oobB (nI i) (nT w.2.2.1) = false
  rw [hw.eT]
  exact oob_nI hi (by omega)
theorem g_get1 (hw : Wd σ κ τ μ z w) {i : Nat} (hi : i < σ 0 3 0) : (pbnd (pchk 0 1) fun _ => pget 1 (nI i)) w = some (.inl (), w) := by
  rw [pbnd_eq (g_chk01 hw)]
  have := hw.cr.bd
  refine if_pos ?_
  show oobB (nI i) (nB w.2.2.1) = false
  rw [hw.eB]
  exact oob_nI hi (by omega)
theorem g_ldG {F : F3} {w : PS} {k i j : Nat} {v : Int32} (hv : valA w.2.2.1 k i = true) (hj : j < ln k i) (e : w.2.2.2.1 k i j = v) : pld k i (nI j) w = some (.inl v, w) := by
  have hl := ln_pos k i
  rw [← e]
  show (if valA w.2.2.1 k i = true ∧ oobB (nI j) (ln k i) = false then some ((Sum.inl (w.2.2.2.1 k i (nI j).toNatClampNeg) : Int32 ⊕ String), w) else none) = _
  rw [if_pos ⟨hv, oob_nI hj (by omega)⟩, nI_clamp (by omega)]
theorem g_gIG {w : PS} {c i k : Nat} {v : Int32} (hv : val w.2.2.1 c i = true) (e : w.2.2.1 c i k = v) : pgI c i k w = some (.inl v, w) := by
  rw [← e]; exact if_pos hv
theorem g_row3 {i : Nat} (hi : i < 4) : prow 3 (nI i) w = some (.inl (), w) := if_pos (oob_nI hi (by decide))
theorem g_row4 {i : Nat} (hi : i < 3) : prow 4 (nI i) w = some (.inl (), w) := if_pos (oob_nI hi (by decide))
theorem g_gO0 (hw : Wd σ κ τ μ z w) {b : Nat} (hb : b < σ 0 3 0) : pgO b w = some (.inl (if σ 8 b 6 = 0 then none else some (2 * b + 1)), w) := by
  have := hw.e1 (b := b)
  show (if val w.2.2.1 1 b = true then some ((.inl (if w.2.2.1 1 b 1 = 0 then none else some (2 * b + 1)) : Option Nat ⊕ String), w) else none) = _
  rw [if_pos (hw.v1 hb)]
  simp only [this]
theorem g_gB (hw : Wd σ κ τ μ z w) {b : Nat} (hb : b < σ 0 3 0) (he : σ 8 b 6 ≠ 0) : pgB b w = some (.inl (), w) := if_pos ⟨hw.v1 hb, fun e => he (hw.e1.mp e)⟩
theorem g_st (hw : Wd σ κ τ μ z w)  : pgI 3 0 1 w = some (.inl (nI (σ 0 1 0)), w) := g_gIG hw.v3 (hw.cr.st )
theorem g_ca (hw : Wd σ κ τ μ z w)  : pgI 2 0 1 w = some (.inl (nI (σ 0 4 0)), w) := g_gIG hw.v2 (hw.cr.ca )
theorem g_now (hw : Wd σ κ τ μ z w)  : pgI 6 0 4 w = some (.inl (nI (σ 0 0 0)), w) := g_gIG hw.v6 (hw.cr.now )
theorem g_sort (hw : Wd σ κ τ μ z w) {i : Nat} (hi : i < 10) : pld 0 0 (nI i) w = some (.inl (nI (σ 1 i 0)), w) := g_ldG (F := w.2.2.1) rfl hi (hw.cr.sort i)
theorem g_room (hw : Wd σ κ τ μ z w) {t : Nat} (ht : t < σ 0 2 0) : pgI 4 t 0 w = some (.inl (nI (σ 2 t 0)), w) := g_gIG (hw.v4 ht) (hw.cr.room t)
theorem g_stops (hw : Wd σ κ τ μ z w) {t : Nat} (ht : t < σ 0 2 0) : pgI 4 t 4 w = some (.inl (nI (σ 3 t 0)), w) := g_gIG (hw.v4 ht) (hw.cr.stops t)
theorem g_canc (hw : Wd σ κ τ μ z w) {t : Nat} (ht : t < σ 0 2 0) : pgI 4 t 5 w = some (.inl (nI (σ 4 t 0)), w) := g_gIG (hw.v4 ht) (hw.cr.canc t)
theorem g_sta (hw : Wd σ κ τ μ z w) {t k : Nat} (ht : t < σ 0 2 0) (hk : k < 10) : pld 5 t (nI k) w = some (.inl (nI (σ 5 t k)), w) := g_ldG (F := w.2.2.1) (show valA w.2.2.1 5 t = true from hw.v4 ht) hk (hw.cr.sta t k)
theorem g_min (hw : Wd σ κ τ μ z w) {t k : Nat} (ht : t < σ 0 2 0) (hk : k < 10) : pld 6 t (nI k) w = some (.inl (nI (σ 6 t k)), w) := g_ldG (F := w.2.2.1) (show valA w.2.2.1 6 t = true from hw.v4 ht) hk (hw.cr.min t k)
theorem g_load (hw : Wd σ κ τ μ z w) {t k : Nat} (ht : t < σ 0 2 0) (hk : k < 10) : pld 7 t (nI k) w = some (.inl (dL (σ 7 t k)), w) := g_ldG (F := w.2.2.1) (show valA w.2.2.1 7 t = true from hw.v4 ht) hk (hw.cr.load t k)
theorem g_from (hw : Wd σ κ τ μ z w) {i : Nat} (hi : okW σ i) : pgI 5 i 0 w = some (.inl (nI (fromS σ i)), w) := g_gIG (hw.v5 hi) (hw.cr.from i)
theorem g_wfrom (hw : Wd σ κ τ μ z w) {i : Nat} (hi : okW σ i) : pgI 5 i 1 w = some (.inl (nI (wfromS σ i)), w) := g_gIG (hw.v5 hi) (hw.cr.wfrom i)
theorem g_ready (hw : Wd σ κ τ μ z w) {i : Nat} (hi : okW σ i) : pgI 5 i 2 w = some (.inl (nI (readyS σ i)), w) := g_gIG (hw.v5 hi) (hw.cr.ready i)
theorem g_to (hw : Wd σ κ τ μ z w) {i : Nat} (hi : okW σ i) : pgI 5 i 3 w = some (.inl (nI (toS σ i)), w) := g_gIG (hw.v5 hi) (hw.cr.to i)
theorem g_wto (hw : Wd σ κ τ μ z w) {i : Nat} (hi : okW σ i) : pgI 5 i 4 w = some (.inl (nI (wtoS σ i)), w) := g_gIG (hw.v5 hi) (hw.cr.wto i)
theorem g_due (hw : Wd σ κ τ μ z w) {i : Nat} (hi : okW σ i) : pgI 5 i 5 w = some (.inl (nI (dueS σ i)), w) := g_gIG (hw.v5 hi) (hw.cr.due i)
theorem g_many (hw : Wd σ κ τ μ z w) {i : Nat} (hi : okW σ i) : pgI 5 i 7 w = some (.inl (nI (σ 9 i 2)), w) := g_gIG (hw.v5 hi) (hw.cr.many i)
theorem g_had (hw : Wd σ κ τ μ z w) {i : Nat} (hi : okW σ i) : pgI 5 i 8 w = some (.inl (nI (σ 9 i 0)), w) := g_gIG (hw.v5 hi) (hw.cr.had i)
theorem g_there (hw : Wd σ κ τ μ z w) {i : Nat} (hi : okW σ i) : pgI 5 i 9 w = some (.inl (m1 (σ 9 i 5)), w) := g_gIG (hw.v5 hi) (hw.cr.there i)
theorem g_stands (hw : Wd σ κ τ μ z w) {i : Nat} (hi : okW σ i) : pgI 5 i 10 w = some (.inl (m1 (σ 9 i 3)), w) := g_gIG (hw.v5 hi) (hw.cr.stands i)
theorem g_since (hw : Wd σ κ τ μ z w) {i : Nat} (hi : okW σ i) : pgI 5 i 11 w = some (.inl ((if σ 9 i 3 = 0 then -1 else nI (σ 9 i 4))), w) := g_gIG (hw.v5 hi) (hw.cr.since i)
theorem g_off (hw : Wd σ κ τ μ z w) {i : Nat} (hi : okW σ i) : pgI 5 i 12 w = some (.inl (nI (κ 3 i 0)), w) := g_gIG (hw.v5 hi) (hw.cr.off i)
theorem g_leg (hw : Wd σ κ τ μ z w) {i j : Nat} (hi : okW σ i) (hj : j < 9) : pld 8 i (nI j) w = some (.inl (nI (σ 10 i j)), w) := g_ldG (F := w.2.2.1) (show valA w.2.2.1 8 i = true from hw.v5 hi) hj (hw.cr.leg i j)
theorem g_days (hw : Wd σ κ τ μ z w) {i : Nat} (hi : i < 40) : pld 1 0 (nI i) w = some (.inl (nI (σ 11 i 0)), w) := g_ldG (F := w.2.2.1) rfl hi (hw.cr.days i)
theorem g_earl (hw : Wd σ κ τ μ z w) {l i : Nat} (hl : l < 4) (hi : i < 10) : pld 3 l (nI i) w = some (.inl (nI (κ 0 l i)), w) := g_ldG (F := w.2.2.1) (show valA w.2.2.1 3 l = true by simp [valA, hl]) hi (hw.cr.earl l i)
theorem g_late (hw : Wd σ κ τ μ z w) {l i : Nat} (hl : l < 3) (hi : i < 10) : pld 4 l (nI i) w = some (.inl (m1 (κ 1 l i)), w) := g_ldG (F := w.2.2.1) (show valA w.2.2.1 4 l = true by simp [valA, hl]) hi (hw.cr.late l i)
theorem g_marks (hw : Wd σ κ τ μ z w) {i : Nat} (hi : i < 60) : pld 2 0 (nI i) w = some (.inl (m1 (κ 2 0 i)), w) := g_ldG (F := w.2.2.1) rfl hi (hw.cr.marks i)
theorem h_code (hw : Wd σ κ τ μ z w)  : pgI 7 0 0 w = some (.inl (nI (μ 5 0 0)), w) := g_gIG hw.v7 hw.mr.code
theorem h_now (hw : Wd σ κ τ μ z w)  : pgI 7 0 1 w = some (.inl (nI (τ 0 0 0)), w) := g_gIG hw.v7 hw.mr.now
theorem h_st (hw : Wd σ κ τ μ z w)  : pgI 7 0 2 w = some (.inl (nI (τ 0 1 0)), w) := g_gIG hw.v7 hw.mr.st
theorem h_tr (hw : Wd σ κ τ μ z w)  : pgI 7 0 3 w = some (.inl (nI (τ 0 2 0)), w) := g_gIG hw.v7 hw.mr.tr
theorem h_bx (hw : Wd σ κ τ μ z w)  : pgI 7 0 4 w = some (.inl (nI (τ 0 3 0)), w) := g_gIG hw.v7 hw.mr.bx
theorem h_ca (hw : Wd σ κ τ μ z w)  : pgI 7 0 5 w = some (.inl (nI (τ 0 4 0)), w) := g_gIG hw.v7 hw.mr.ca
theorem h_sort (hw : Wd σ κ τ μ z w) {i : Nat} (hi : i < 10) : pld 9 6 (nI i) w = some (.inl (nI (τ 1 i 0)), w) := g_ldG (F := w.2.2.1) rfl (show i < 10 from hi) (hw.mr.sort i)
theorem h_room (hw : Wd σ κ τ μ z w) {i : Nat} (hi : i < 16) : pld 9 7 (nI i) w = some (.inl (nI (τ 2 i 0)), w) := g_ldG (F := w.2.2.1) rfl (show i < 16 from hi) (hw.mr.room i)
theorem h_stops (hw : Wd σ κ τ μ z w) {i : Nat} (hi : i < 16) : pld 9 8 (nI i) w = some (.inl (nI (τ 3 i 0)), w) := g_ldG (F := w.2.2.1) rfl (show i < 16 from hi) (hw.mr.stops i)
theorem h_sta (hw : Wd σ κ τ μ z w) {t k : Nat} (ht : t < 16) (hk : k < 10) : pld 9 9 (nI (10 * t + k)) w = some (.inl (nI (τ 5 t k)), w) := g_ldG (F := w.2.2.1) rfl (show 10 * t + k < 160 by omega) (hw.mr.sta t k hk)
theorem h_min (hw : Wd σ κ τ μ z w) {t k : Nat} (ht : t < 16) (hk : k < 10) : pld 9 10 (nI (10 * t + k)) w = some (.inl (nI (τ 6 t k)), w) := g_ldG (F := w.2.2.1) rfl (show 10 * t + k < 160 by omega) (hw.mr.min t k hk)
theorem h_load (hw : Wd σ κ τ μ z w) {t k : Nat} (ht : t < 16) (hk : k < 10) : pld 9 11 (nI (10 * t + k)) w = some (.inl (dL (τ 7 t k)), w) := g_ldG (F := w.2.2.1) rfl (show 10 * t + k < 160 by omega) (hw.mr.load t k hk)
theorem h_days (hw : Wd σ κ τ μ z w) {i : Nat} (hi : i < 40) : pld 9 12 (nI i) w = some (.inl (nI (τ 11 i 0)), w) := g_ldG (F := w.2.2.1) rfl (show i < 40 from hi) (hw.mr.days i)
theorem h_canc (hw : Wd σ κ τ μ z w) {i : Nat} (hi : i < 16) : pld 9 13 (nI i) w = some (.inl (nI (τ 4 i 0)), w) := g_ldG (F := w.2.2.1) rfl (show i < 16 from hi) (hw.mr.canc i)
theorem h_home (hw : Wd σ κ τ μ z w) {i : Nat} (hi : i < 60) : pld 9 14 (nI i) w = some (.inl (nI (τ 8 i 0)), w) := g_ldG (F := w.2.2.1) rfl (show i < 60 from hi) (hw.mr.home i)
theorem h_walk (hw : Wd σ κ τ μ z w) {i : Nat} (hi : i < 60) : pld 9 15 (nI i) w = some (.inl (nI (τ 8 i 1)), w) := g_ldG (F := w.2.2.1) rfl (show i < 60 from hi) (hw.mr.walk i)
theorem h_ready (hw : Wd σ κ τ μ z w) {i : Nat} (hi : i < 60) : pld 9 16 (nI i) w = some (.inl (nI (τ 8 i 2)), w) := g_ldG (F := w.2.2.1) rfl (show i < 60 from hi) (hw.mr.ready i)
theorem h_desk (hw : Wd σ κ τ μ z w) {i : Nat} (hi : i < 60) : pld 9 17 (nI i) w = some (.inl (nI (τ 8 i 3)), w) := g_ldG (F := w.2.2.1) rfl (show i < 60 from hi) (hw.mr.desk i)
theorem h_walkT (hw : Wd σ κ τ μ z w) {i : Nat} (hi : i < 60) : pld 9 18 (nI i) w = some (.inl (nI (τ 8 i 4)), w) := g_ldG (F := w.2.2.1) rfl (show i < 60 from hi) (hw.mr.walkT i)
theorem h_due (hw : Wd σ κ τ μ z w) {i : Nat} (hi : i < 60) : pld 9 19 (nI i) w = some (.inl (nI (τ 8 i 5)), w) := g_ldG (F := w.2.2.1) rfl (show i < 60 from hi) (hw.mr.due i)
theorem h_rback (hw : Wd σ κ τ μ z w) {i : Nat} (hi : i < 60) : pld 9 20 (nI i) w = some (.inl (nI (τ 8 i 7)), w) := g_ldG (F := w.2.2.1) rfl (show i < 60 from hi) (hw.mr.rback i)
theorem h_emp (hw : Wd σ κ τ μ z w) {i : Nat} (hi : i < 60) : pld 9 21 (nI i) w = some (.inl (nI (τ 8 i 6)), w) := g_ldG (F := w.2.2.1) rfl (show i < 60 from hi) (hw.mr.emp i)
theorem h_had (hw : Wd σ κ τ μ z w) {i : Nat} (hi : i < 120) : pld 9 22 (nI i) w = some (.inl (nI (τ 9 i 0)), w) := g_ldG (F := w.2.2.1) rfl (show i < 120 from hi) (hw.mr.had i)
theorem h_has (hw : Wd σ κ τ μ z w) {i : Nat} (hi : i < 120) : pld 9 23 (nI i) w = some (.inl (nI (if τ 9 i 5 = 0 then 0 else 1)), w) := g_ldG (F := w.2.2.1) rfl (show i < 120 from hi) (hw.mr.has i)
theorem h_many (hw : Wd σ κ τ μ z w) {i : Nat} (hi : i < 120) : pld 9 24 (nI i) w = some (.inl (nI (τ 9 i 2)), w) := g_ldG (F := w.2.2.1) rfl (show i < 120 from hi) (hw.mr.many i)
theorem h_stands (hw : Wd σ κ τ μ z w) {i : Nat} (hi : i < 120) : pld 9 25 (nI i) w = some (.inl (m1 (τ 9 i 3)), w) := g_ldG (F := w.2.2.1) rfl (show i < 120 from hi) (hw.mr.stands i)
theorem h_since (hw : Wd σ κ τ μ z w) {i : Nat} (hi : i < 120) (hs : τ 9 i 3 ≠ 0) : pld 9 26 (nI i) w = some (.inl (nI (τ 9 i 4)), w) := g_ldG (F := w.2.2.1) rfl (show i < 120 from hi) (hw.mr.since i hs)
theorem h_legT (hw : Wd σ κ τ μ z w) {i j : Nat} (hi : i < 120) (hj : j < 3) : pld 9 27 (nI (3 * i + j)) w = some (.inl (nI (τ 10 i (3 * j))), w) := g_ldG (F := w.2.2.1) rfl (show 3 * i + j < 360 by omega) (hw.mr.legT i j hj)
theorem h_legN (hw : Wd σ κ τ μ z w) {i j : Nat} (hi : i < 120) (hj : j < 3) : pld 9 28 (nI (3 * i + j)) w = some (.inl (nI (τ 10 i (3 * j + 1))), w) := g_ldG (F := w.2.2.1) rfl (show 3 * i + j < 360 by omega) (hw.mr.legN i j hj)
theorem h_legF (hw : Wd σ κ τ μ z w) {i j : Nat} (hi : i < 120) (hj : j < 3) : pld 9 29 (nI (3 * i + j)) w = some (.inl (nI (τ 10 i (3 * j + 2))), w) := g_ldG (F := w.2.2.1) rfl (show 3 * i + j < 360 by omega) (hw.mr.legF i j hj)
theorem h_early (hw : Wd σ κ τ μ z w) {i : Nat} (hi : i < 640) : pld 9 30 (nI i) w = some (.inl (nI (μ 0 i 0)), w) := g_ldG (F := w.2.2.1) rfl (show i < 640 from hi) (hw.mr.early i)
theorem h_few (hw : Wd σ κ τ μ z w) {i : Nat} (hi : i < 640) : pld 9 31 (nI i) w = some (.inl (nI (μ 1 i 0)), w) := g_ldG (F := w.2.2.1) rfl (show i < 640 from hi) (hw.mr.few i)
theorem h_bT (hw : Wd σ κ τ μ z w)  : pgI 7 0 32 w = some (.inl (nI (μ 2 0 0)), w) := g_gIG hw.v7 hw.mr.bT
theorem h_bL (hw : Wd σ κ τ μ z w)  : pgI 7 0 33 w = some (.inl (nI (μ 2 1 0)), w) := g_gIG hw.v7 hw.mr.bL
theorem h_bt (hw : Wd σ κ τ μ z w)  : pgI 7 0 34 w = some (.inl (m1 (μ 2 2 0)), w) := g_gIG hw.v7 hw.mr.bt
theorem h_bon (hw : Wd σ κ τ μ z w)  : pgI 7 0 35 w = some (.inl (nI (μ 2 3 0)), w) := g_gIG hw.v7 hw.mr.bon
theorem h_boff (hw : Wd σ κ τ μ z w)  : pgI 7 0 36 w = some (.inl (nI (μ 2 4 0)), w) := g_gIG hw.v7 hw.mr.boff
theorem h_gives (hw : Wd σ κ τ μ z w) {i : Nat} (hi : i < 60) : pld 9 37 (nI i) w = some (.inl (nI (μ 3 i 0)), w) := g_ldG (F := w.2.2.1) rfl (show i < 60 from hi) (hw.mr.gives i)
end GET
section SET
variable {σ κ τ μ : SG} {z : BB} {w : PS}
theorem Wd.setF {σ' κ' : SG} (hw : Wd σ κ τ μ z w) {c i k : Nat} {v : Int32} (hc : c ≠ 7) (hv : val w.2.2.1 c i = true) (h : CR σ' κ' (u3 w.2.2.1 c i k v) w.2.2.2.1) : ∃ w', ppI c i k v w = some (.inl (), w') ∧ Wd σ' κ' τ μ z w' :=
  ⟨(w.1, w.2.1, u3 w.2.2.1 c i k v, w.2.2.2), if_pos hv, hw.1, h, hw.mr.frame (fun k' => if_neg (fun q => hc q.1.symm)) (fun _ _ => rfl)⟩
theorem Wd.setA {σ' κ' : SG} (hw : Wd σ κ τ μ z w) {c i k : Nat} {v : Int32} (hc : c ≠ 9) (hv : valA w.2.2.1 c i = true) (hk : k < ln c i) (h : CR σ' κ' w.2.2.1 (u3 w.2.2.2.1 c i k v)) : ∃ w', pst c i (nI k) v w = some (.inl (), w') ∧ Wd σ' κ' τ μ z w' := by
  have hl := ln_pos c i
  refine ⟨(w.1, w.2.1, w.2.2.1, u3 w.2.2.2.1 c i k v, w.2.2.2.2), ?_, hw.1, h, hw.mr.frame (fun _ => rfl) (fun i' j' => if_neg (fun q => hc q.1.symm))⟩
  show (if valA w.2.2.1 c i = true ∧ oobB (nI k) (ln c i) = false then _ else none) = _
  rw [if_pos ⟨hv, oob_nI hk (by omega)⟩, nI_clamp (by omega)]
theorem Wd.setF7 {τ' μ' : SG} (hw : Wd σ κ τ μ z w) {k : Nat} {v : Int32} (h : MR τ' μ' (u3 w.2.2.1 7 0 k v) w.2.2.2.1) : ∃ w', ppI 7 0 k v w = some (.inl (), w') ∧ Wd σ κ τ' μ' z w' :=
  ⟨(w.1, w.2.1, u3 w.2.2.1 7 0 k v, w.2.2.2), if_pos hw.v7, hw.1, hw.cr.frame (fun c i k' hc => if_neg (fun q => hc q.1)) (fun _ _ _ _ => rfl), h⟩
theorem Wd.setA9 {τ' μ' : SG} (hw : Wd σ κ τ μ z w) {i k : Nat} {v : Int32} (hv : valA w.2.2.1 9 i = true) (hk : k < ln 9 i) (h : MR τ' μ' w.2.2.1 (u3 w.2.2.2.1 9 i k v)) : ∃ w', pst 9 i (nI k) v w = some (.inl (), w') ∧ Wd σ κ τ' μ' z w' := by
  have hl := ln_pos 9 i
  refine ⟨(w.1, w.2.1, w.2.2.1, u3 w.2.2.2.1 9 i k v, w.2.2.2.2), ?_, hw.1, hw.cr.frame (fun _ _ _ _ => rfl) (fun c i' j' hc => if_neg (fun q => hc q.1)), h⟩
  show (if valA w.2.2.1 9 i = true ∧ oobB (nI k) (ln 9 i) = false then _ else none) = _
  rw [if_pos ⟨hv, oob_nI hk (by omega)⟩, nI_clamp (by omega)]
theorem Rx_set {α : Type} {m : PM Unit} {f : Unit → PM α} {Q : α → PS → Prop} {E : String → PS → Prop} {σ' κ' τ' μ' : SG} {z' : BB} (h : ∃ w', m w = some (.inl (), w') ∧ Wd σ' κ' τ' μ' z' w') (k : ∀ w', Wd σ' κ' τ' μ' z' w' → Rx (f ()) w' Q E) : Rx (pbnd m f) w Q E := by
  obtain ⟨w', e, hw'⟩ := h
  exact Rx_rd e (k w' hw')
theorem s_st (hw : Wd σ κ τ μ z w) {v : Nat} : ∃ w', ppI 3 0 1 (nI v) w = some (.inl (), w') ∧ Wd (us σ 0 1 0 v) (κ) τ μ z w' := by
  refine hw.setF (by decide) hw.v3 ?_
  have h := hw.cr
  obtain ⟨q0, q1, q2, q3, q4, q5, q6, q7, q8, q9, q10, q11, q12, q13, q14, q15, q16, q17, q18, q19, q20, q21, q22, q23, q24, q25, q26, q27, q28, q29, q30⟩ := h
  refine ⟨?_, ?_, ?_, ?_, ?_, ?_, ?_, ?_, ?_, ?_, ?_, ?_, ?_, ?_, ?_, ?_, ?_, ?_, ?_, ?_, ?_, ?_, ?_, ?_, ?_, ?_, ?_, ?_, ?_, ?_, ?_⟩
  · simpa [us] using q0
  · skip
    have q := q1
    simp only [u3, us] at *; (repeat' split) <;> first | rfl | assumption | omega | (exfalso; omega) | simp_all
  · simpa [u3, us, fromS, wfromS, readyS, toS, wtoS, dueS] using q2
  · simpa [u3, us, fromS, wfromS, readyS, toS, wtoS, dueS] using q3
  · simpa [u3, us, fromS, wfromS, readyS, toS, wtoS, dueS] using q4
  · simpa [u3, us, fromS, wfromS, readyS, toS, wtoS, dueS] using q5
  · simpa [u3, us, fromS, wfromS, readyS, toS, wtoS, dueS] using q6
  · simpa [u3, us, fromS, wfromS, readyS, toS, wtoS, dueS] using q7
  · simpa [u3, us, fromS, wfromS, readyS, toS, wtoS, dueS] using q8
  · simpa [u3, us, fromS, wfromS, readyS, toS, wtoS, dueS] using q9
  · simpa [u3, us, fromS, wfromS, readyS, toS, wtoS, dueS] using q10
  · simpa [u3, us, fromS, wfromS, readyS, toS, wtoS, dueS] using q11
  · simpa [u3, us, fromS, wfromS, readyS, toS, wtoS, dueS] using q12
  · simpa [u3, us, fromS, wfromS, readyS, toS, wtoS, dueS] using q13
  · simpa [u3, us, fromS, wfromS, readyS, toS, wtoS, dueS] using q14
  · simpa [u3, us, fromS, wfromS, readyS, toS, wtoS, dueS] using q15
  · simpa [u3, us, fromS, wfromS, readyS, toS, wtoS, dueS] using q16
  · simpa [u3, us, fromS, wfromS, readyS, toS, wtoS, dueS] using q17
  · simpa [u3, us, fromS, wfromS, readyS, toS, wtoS, dueS] using q18
  · simpa [u3, us, fromS, wfromS, readyS, toS, wtoS, dueS] using q19
  · simpa [u3, us, fromS, wfromS, readyS, toS, wtoS, dueS] using q20
  · simpa [u3, us, fromS, wfromS, readyS, toS, wtoS, dueS] using q21
  · simpa [u3, us, fromS, wfromS, readyS, toS, wtoS, dueS] using q22
  · simpa [u3, us, fromS, wfromS, readyS, toS, wtoS, dueS] using q23
  · simpa [u3, us, fromS, wfromS, readyS, toS, wtoS, dueS] using q24
  · simpa [u3, us, fromS, wfromS, readyS, toS, wtoS, dueS] using q25
  · simpa [u3, us, fromS, wfromS, readyS, toS, wtoS, dueS] using q26
  · simpa [u3, us, fromS, wfromS, readyS, toS, wtoS, dueS] using q27
  · simpa [u3, us, fromS, wfromS, readyS, toS, wtoS, dueS] using q28
  · simpa [u3, us, fromS, wfromS, readyS, toS, wtoS, dueS] using q29
  · simpa [u3, us, fromS, wfromS, readyS, toS, wtoS, dueS] using q30
theorem s_now (hw : Wd σ κ τ μ z w) {v : Nat} : ∃ w', ppI 6 0 4 (nI v) w = some (.inl (), w') ∧ Wd (us σ 0 0 0 v) (κ) τ μ z w' := by
  refine hw.setF (by decide) hw.v6 ?_
  have h := hw.cr
  obtain ⟨q0, q1, q2, q3, q4, q5, q6, q7, q8, q9, q10, q11, q12, q13, q14, q15, q16, q17, q18, q19, q20, q21, q22, q23, q24, q25, q26, q27, q28, q29, q30⟩ := h
  refine ⟨?_, ?_, ?_, ?_, ?_, ?_, ?_, ?_, ?_, ?_, ?_, ?_, ?_, ?_, ?_, ?_, ?_, ?_, ?_, ?_, ?_, ?_, ?_, ?_, ?_, ?_, ?_, ?_, ?_, ?_, ?_⟩
  · simpa [us] using q0
  · simpa [u3, us, fromS, wfromS, readyS, toS, wtoS, dueS] using q1
  · simpa [u3, us, fromS, wfromS, readyS, toS, wtoS, dueS] using q2
  · simpa [u3, us, fromS, wfromS, readyS, toS, wtoS, dueS] using q3
  · simpa [u3, us, fromS, wfromS, readyS, toS, wtoS, dueS] using q4
  · skip
    have q := q5
    simp only [u3, us] at *; (repeat' split) <;> first | rfl | assumption | omega | (exfalso; omega) | simp_all
  · simpa [u3, us, fromS, wfromS, readyS, toS, wtoS, dueS] using q6
  · simpa [u3, us, fromS, wfromS, readyS, toS, wtoS, dueS] using q7
  · simpa [u3, us, fromS, wfromS, readyS, toS, wtoS, dueS] using q8
  · simpa [u3, us, fromS, wfromS, readyS, toS, wtoS, dueS] using q9
  · simpa [u3, us, fromS, wfromS, readyS, toS, wtoS, dueS] using q10
  · simpa [u3, us, fromS, wfromS, readyS, toS, wtoS, dueS] using q11
  · simpa [u3, us, fromS, wfromS, readyS, toS, wtoS, dueS] using q12
  · simpa [u3, us, fromS, wfromS, readyS, toS, wtoS, dueS] using q13
  · simpa [u3, us, fromS, wfromS, readyS, toS, wtoS, dueS] using q14
  · simpa [u3, us, fromS, wfromS, readyS, toS, wtoS, dueS] using q15
  · simpa [u3, us, fromS, wfromS, readyS, toS, wtoS, dueS] using q16
  · simpa [u3, us, fromS, wfromS, readyS, toS, wtoS, dueS] using q17
  · simpa [u3, us, fromS, wfromS, readyS, toS, wtoS, dueS] using q18
  · simpa [u3, us, fromS, wfromS, readyS, toS, wtoS, dueS] using q19
  · simpa [u3, us, fromS, wfromS, readyS, toS, wtoS, dueS] using q20
  · simpa [u3, us, fromS, wfromS, readyS, toS, wtoS, dueS] using q21
  · simpa [u3, us, fromS, wfromS, readyS, toS, wtoS, dueS] using q22
  · simpa [u3, us, fromS, wfromS, readyS, toS, wtoS, dueS] using q23
  · simpa [u3, us, fromS, wfromS, readyS, toS, wtoS, dueS] using q24
  · simpa [u3, us, fromS, wfromS, readyS, toS, wtoS, dueS] using q25
  · simpa [u3, us, fromS, wfromS, readyS, toS, wtoS, dueS] using q26
  · simpa [u3, us, fromS, wfromS, readyS, toS, wtoS, dueS] using q27
  · simpa [u3, us, fromS, wfromS, readyS, toS, wtoS, dueS] using q28
  · simpa [u3, us, fromS, wfromS, readyS, toS, wtoS, dueS] using q29
  · simpa [u3, us, fromS, wfromS, readyS, toS, wtoS, dueS] using q30
theorem s_ca (hw : Wd σ κ τ μ z w) {v : Nat} : ∃ w', ppI 2 0 1 (nI v) w = some (.inl (), w') ∧ Wd (us σ 0 4 0 v) (κ) τ μ z w' := by
  refine hw.setF (by decide) hw.v2 ?_
  have h := hw.cr
  obtain ⟨q0, q1, q2, q3, q4, q5, q6, q7, q8, q9, q10, q11, q12, q13, q14, q15, q16, q17, q18, q19, q20, q21, q22, q23, q24, q25, q26, q27, q28, q29, q30⟩ := h
  refine ⟨?_, ?_, ?_, ?_, ?_, ?_, ?_, ?_, ?_, ?_, ?_, ?_, ?_, ?_, ?_, ?_, ?_, ?_, ?_, ?_, ?_, ?_, ?_, ?_, ?_, ?_, ?_, ?_, ?_, ?_, ?_⟩
  · simpa [us] using q0
  · simpa [u3, us, fromS, wfromS, readyS, toS, wtoS, dueS] using q1
  · simpa [u3, us, fromS, wfromS, readyS, toS, wtoS, dueS] using q2
  · simpa [u3, us, fromS, wfromS, readyS, toS, wtoS, dueS] using q3
  · skip
    have q := q4
    simp only [u3, us] at *; (repeat' split) <;> first | rfl | assumption | omega | (exfalso; omega) | simp_all
  · simpa [u3, us, fromS, wfromS, readyS, toS, wtoS, dueS] using q5
  · simpa [u3, us, fromS, wfromS, readyS, toS, wtoS, dueS] using q6
  · simpa [u3, us, fromS, wfromS, readyS, toS, wtoS, dueS] using q7
  · simpa [u3, us, fromS, wfromS, readyS, toS, wtoS, dueS] using q8
  · simpa [u3, us, fromS, wfromS, readyS, toS, wtoS, dueS] using q9
  · simpa [u3, us, fromS, wfromS, readyS, toS, wtoS, dueS] using q10
  · simpa [u3, us, fromS, wfromS, readyS, toS, wtoS, dueS] using q11
  · simpa [u3, us, fromS, wfromS, readyS, toS, wtoS, dueS] using q12
  · simpa [u3, us, fromS, wfromS, readyS, toS, wtoS, dueS] using q13
  · simpa [u3, us, fromS, wfromS, readyS, toS, wtoS, dueS] using q14
  · simpa [u3, us, fromS, wfromS, readyS, toS, wtoS, dueS] using q15
  · simpa [u3, us, fromS, wfromS, readyS, toS, wtoS, dueS] using q16
  · simpa [u3, us, fromS, wfromS, readyS, toS, wtoS, dueS] using q17
  · simpa [u3, us, fromS, wfromS, readyS, toS, wtoS, dueS] using q18
  · simpa [u3, us, fromS, wfromS, readyS, toS, wtoS, dueS] using q19
  · simpa [u3, us, fromS, wfromS, readyS, toS, wtoS, dueS] using q20
  · simpa [u3, us, fromS, wfromS, readyS, toS, wtoS, dueS] using q21
  · simpa [u3, us, fromS, wfromS, readyS, toS, wtoS, dueS] using q22
  · simpa [u3, us, fromS, wfromS, readyS, toS, wtoS, dueS] using q23
  · simpa [u3, us, fromS, wfromS, readyS, toS, wtoS, dueS] using q24
  · simpa [u3, us, fromS, wfromS, readyS, toS, wtoS, dueS] using q25
  · simpa [u3, us, fromS, wfromS, readyS, toS, wtoS, dueS] using q26
  · simpa [u3, us, fromS, wfromS, readyS, toS, wtoS, dueS] using q27
  · simpa [u3, us, fromS, wfromS, readyS, toS, wtoS, dueS] using q28
  · simpa [u3, us, fromS, wfromS, readyS, toS, wtoS, dueS] using q29
  · simpa [u3, us, fromS, wfromS, readyS, toS, wtoS, dueS] using q30
theorem s_sort (hw : Wd σ κ τ μ z w) {i v : Nat} (hi : i < 10) : ∃ w', pst 0 0 (nI i) (nI v) w = some (.inl (), w') ∧ Wd (us σ 1 i 0 v) (κ) τ μ z w' := by
  refine hw.setA (by decide) rfl hi ?_
  have h := hw.cr
  obtain ⟨q0, q1, q2, q3, q4, q5, q6, q7, q8, q9, q10, q11, q12, q13, q14, q15, q16, q17, q18, q19, q20, q21, q22, q23, q24, q25, q26, q27, q28, q29, q30⟩ := h
  refine ⟨?_, ?_, ?_, ?_, ?_, ?_, ?_, ?_, ?_, ?_, ?_, ?_, ?_, ?_, ?_, ?_, ?_, ?_, ?_, ?_, ?_, ?_, ?_, ?_, ?_, ?_, ?_, ?_, ?_, ?_, ?_⟩
  · simpa [us] using q0
  · simpa [u3, us, fromS, wfromS, readyS, toS, wtoS, dueS] using q1
  · simpa [u3, us, fromS, wfromS, readyS, toS, wtoS, dueS] using q2
  · simpa [u3, us, fromS, wfromS, readyS, toS, wtoS, dueS] using q3
  · simpa [u3, us, fromS, wfromS, readyS, toS, wtoS, dueS] using q4
  · simpa [u3, us, fromS, wfromS, readyS, toS, wtoS, dueS] using q5
  · intro i
    have q := q6 i
    simp only [u3, us] at *; (repeat' split) <;> first | rfl | assumption | omega | (exfalso; omega) | simp_all
  · simpa [u3, us, fromS, wfromS, readyS, toS, wtoS, dueS] using q7
  · simpa [u3, us, fromS, wfromS, readyS, toS, wtoS, dueS] using q8
  · simpa [u3, us, fromS, wfromS, readyS, toS, wtoS, dueS] using q9
  · simpa [u3, us, fromS, wfromS, readyS, toS, wtoS, dueS] using q10
  · simpa [u3, us, fromS, wfromS, readyS, toS, wtoS, dueS] using q11
  · simpa [u3, us, fromS, wfromS, readyS, toS, wtoS, dueS] using q12
  · simpa [u3, us, fromS, wfromS, readyS, toS, wtoS, dueS] using q13
  · simpa [u3, us, fromS, wfromS, readyS, toS, wtoS, dueS] using q14
  · simpa [u3, us, fromS, wfromS, readyS, toS, wtoS, dueS] using q15
  · simpa [u3, us, fromS, wfromS, readyS, toS, wtoS, dueS] using q16
  · simpa [u3, us, fromS, wfromS, readyS, toS, wtoS, dueS] using q17
  · simpa [u3, us, fromS, wfromS, readyS, toS, wtoS, dueS] using q18
  · simpa [u3, us, fromS, wfromS, readyS, toS, wtoS, dueS] using q19
  · simpa [u3, us, fromS, wfromS, readyS, toS, wtoS, dueS] using q20
  · simpa [u3, us, fromS, wfromS, readyS, toS, wtoS, dueS] using q21
  · simpa [u3, us, fromS, wfromS, readyS, toS, wtoS, dueS] using q22
  · simpa [u3, us, fromS, wfromS, readyS, toS, wtoS, dueS] using q23
  · simpa [u3, us, fromS, wfromS, readyS, toS, wtoS, dueS] using q24
  · simpa [u3, us, fromS, wfromS, readyS, toS, wtoS, dueS] using q25
  · simpa [u3, us, fromS, wfromS, readyS, toS, wtoS, dueS] using q26
  · simpa [u3, us, fromS, wfromS, readyS, toS, wtoS, dueS] using q27
  · simpa [u3, us, fromS, wfromS, readyS, toS, wtoS, dueS] using q28
  · simpa [u3, us, fromS, wfromS, readyS, toS, wtoS, dueS] using q29
  · simpa [u3, us, fromS, wfromS, readyS, toS, wtoS, dueS] using q30
theorem s_days (hw : Wd σ κ τ μ z w) {i v : Nat} (hi : i < 40) : ∃ w', pst 1 0 (nI i) (nI v) w = some (.inl (), w') ∧ Wd (us σ 11 i 0 v) (κ) τ μ z w' := by
  refine hw.setA (by decide) rfl hi ?_
  have h := hw.cr
  obtain ⟨q0, q1, q2, q3, q4, q5, q6, q7, q8, q9, q10, q11, q12, q13, q14, q15, q16, q17, q18, q19, q20, q21, q22, q23, q24, q25, q26, q27, q28, q29, q30⟩ := h
  refine ⟨?_, ?_, ?_, ?_, ?_, ?_, ?_, ?_, ?_, ?_, ?_, ?_, ?_, ?_, ?_, ?_, ?_, ?_, ?_, ?_, ?_, ?_, ?_, ?_, ?_, ?_, ?_, ?_, ?_, ?_, ?_⟩
  · simpa [us] using q0
  · simpa [u3, us, fromS, wfromS, readyS, toS, wtoS, dueS] using q1
  · simpa [u3, us, fromS, wfromS, readyS, toS, wtoS, dueS] using q2
  · simpa [u3, us, fromS, wfromS, readyS, toS, wtoS, dueS] using q3
  · simpa [u3, us, fromS, wfromS, readyS, toS, wtoS, dueS] using q4
  · simpa [u3, us, fromS, wfromS, readyS, toS, wtoS, dueS] using q5
  · simpa [u3, us, fromS, wfromS, readyS, toS, wtoS, dueS] using q6
  · simpa [u3, us, fromS, wfromS, readyS, toS, wtoS, dueS] using q7
  · simpa [u3, us, fromS, wfromS, readyS, toS, wtoS, dueS] using q8
  · simpa [u3, us, fromS, wfromS, readyS, toS, wtoS, dueS] using q9
  · simpa [u3, us, fromS, wfromS, readyS, toS, wtoS, dueS] using q10
  · simpa [u3, us, fromS, wfromS, readyS, toS, wtoS, dueS] using q11
  · simpa [u3, us, fromS, wfromS, readyS, toS, wtoS, dueS] using q12
  · simpa [u3, us, fromS, wfromS, readyS, toS, wtoS, dueS] using q13
  · simpa [u3, us, fromS, wfromS, readyS, toS, wtoS, dueS] using q14
  · simpa [u3, us, fromS, wfromS, readyS, toS, wtoS, dueS] using q15
  · simpa [u3, us, fromS, wfromS, readyS, toS, wtoS, dueS] using q16
  · simpa [u3, us, fromS, wfromS, readyS, toS, wtoS, dueS] using q17
  · simpa [u3, us, fromS, wfromS, readyS, toS, wtoS, dueS] using q18
  · simpa [u3, us, fromS, wfromS, readyS, toS, wtoS, dueS] using q19
  · simpa [u3, us, fromS, wfromS, readyS, toS, wtoS, dueS] using q20
  · simpa [u3, us, fromS, wfromS, readyS, toS, wtoS, dueS] using q21
  · simpa [u3, us, fromS, wfromS, readyS, toS, wtoS, dueS] using q22
  · simpa [u3, us, fromS, wfromS, readyS, toS, wtoS, dueS] using q23
  · simpa [u3, us, fromS, wfromS, readyS, toS, wtoS, dueS] using q24
  · simpa [u3, us, fromS, wfromS, readyS, toS, wtoS, dueS] using q25
  · simpa [u3, us, fromS, wfromS, readyS, toS, wtoS, dueS] using q26
  · intro i
    have q := q27 i
    simp only [u3, us] at *; (repeat' split) <;> first | rfl | assumption | omega | (exfalso; omega) | simp_all
  · simpa [u3, us, fromS, wfromS, readyS, toS, wtoS, dueS] using q28
  · simpa [u3, us, fromS, wfromS, readyS, toS, wtoS, dueS] using q29
  · simpa [u3, us, fromS, wfromS, readyS, toS, wtoS, dueS] using q30
theorem s_stops (hw : Wd σ κ τ μ z w) {t v : Nat} (ht : t < σ 0 2 0) : ∃ w', ppI 4 t 4 (nI v) w = some (.inl (), w') ∧ Wd (us σ 3 t 0 v) (κ) τ μ z w' := by
  refine hw.setF (by decide) (hw.v4 ht) ?_
  have h := hw.cr
  obtain ⟨q0, q1, q2, q3, q4, q5, q6, q7, q8, q9, q10, q11, q12, q13, q14, q15, q16, q17, q18, q19, q20, q21, q22, q23, q24, q25, q26, q27, q28, q29, q30⟩ := h
  refine ⟨?_, ?_, ?_, ?_, ?_, ?_, ?_, ?_, ?_, ?_, ?_, ?_, ?_, ?_, ?_, ?_, ?_, ?_, ?_, ?_, ?_, ?_, ?_, ?_, ?_, ?_, ?_, ?_, ?_, ?_, ?_⟩
  · simpa [us] using q0
  · simpa [u3, us, fromS, wfromS, readyS, toS, wtoS, dueS] using q1
  · simpa [u3, us, fromS, wfromS, readyS, toS, wtoS, dueS] using q2
  · simpa [u3, us, fromS, wfromS, readyS, toS, wtoS, dueS] using q3
  · simpa [u3, us, fromS, wfromS, readyS, toS, wtoS, dueS] using q4
  · simpa [u3, us, fromS, wfromS, readyS, toS, wtoS, dueS] using q5
  · simpa [u3, us, fromS, wfromS, readyS, toS, wtoS, dueS] using q6
  · simpa [u3, us, fromS, wfromS, readyS, toS, wtoS, dueS] using q7
  · intro t
    have q := q8 t
    simp only [u3, us] at *; (repeat' split) <;> first | rfl | assumption | omega | (exfalso; omega) | simp_all
  · simpa [u3, us, fromS, wfromS, readyS, toS, wtoS, dueS] using q9
  · simpa [u3, us, fromS, wfromS, readyS, toS, wtoS, dueS] using q10
  · simpa [u3, us, fromS, wfromS, readyS, toS, wtoS, dueS] using q11
  · simpa [u3, us, fromS, wfromS, readyS, toS, wtoS, dueS] using q12
  · simpa [u3, us, fromS, wfromS, readyS, toS, wtoS, dueS] using q13
  · simpa [u3, us, fromS, wfromS, readyS, toS, wtoS, dueS] using q14
  · simpa [u3, us, fromS, wfromS, readyS, toS, wtoS, dueS] using q15
  · simpa [u3, us, fromS, wfromS, readyS, toS, wtoS, dueS] using q16
  · simpa [u3, us, fromS, wfromS, readyS, toS, wtoS, dueS] using q17
  · simpa [u3, us, fromS, wfromS, readyS, toS, wtoS, dueS] using q18
  · simpa [u3, us, fromS, wfromS, readyS, toS, wtoS, dueS] using q19
  · simpa [u3, us, fromS, wfromS, readyS, toS, wtoS, dueS] using q20
  · simpa [u3, us, fromS, wfromS, readyS, toS, wtoS, dueS] using q21
  · simpa [u3, us, fromS, wfromS, readyS, toS, wtoS, dueS] using q22
  · simpa [u3, us, fromS, wfromS, readyS, toS, wtoS, dueS] using q23
  · simpa [u3, us, fromS, wfromS, readyS, toS, wtoS, dueS] using q24
  · simpa [u3, us, fromS, wfromS, readyS, toS, wtoS, dueS] using q25
  · simpa [u3, us, fromS, wfromS, readyS, toS, wtoS, dueS] using q26
  · simpa [u3, us, fromS, wfromS, readyS, toS, wtoS, dueS] using q27
  · simpa [u3, us, fromS, wfromS, readyS, toS, wtoS, dueS] using q28
  · simpa [u3, us, fromS, wfromS, readyS, toS, wtoS, dueS] using q29
  · simpa [u3, us, fromS, wfromS, readyS, toS, wtoS, dueS] using q30
theorem s_canc (hw : Wd σ κ τ μ z w) {t : Nat} (ht : t < σ 0 2 0) : ∃ w', ppI 4 t 5 1 w = some (.inl (), w') ∧ Wd (us σ 4 t 0 1) (κ) τ μ z w' := by
  refine hw.setF (by decide) (hw.v4 ht) ?_
  have h := hw.cr
  obtain ⟨q0, q1, q2, q3, q4, q5, q6, q7, q8, q9, q10, q11, q12, q13, q14, q15, q16, q17, q18, q19, q20, q21, q22, q23, q24, q25, q26, q27, q28, q29, q30⟩ := h
  refine ⟨?_, ?_, ?_, ?_, ?_, ?_, ?_, ?_, ?_, ?_, ?_, ?_, ?_, ?_, ?_, ?_, ?_, ?_, ?_, ?_, ?_, ?_, ?_, ?_, ?_, ?_, ?_, ?_, ?_, ?_, ?_⟩
  · simpa [us] using q0
  · simpa [u3, us, fromS, wfromS, readyS, toS, wtoS, dueS] using q1
  · simpa [u3, us, fromS, wfromS, readyS, toS, wtoS, dueS] using q2
  · simpa [u3, us, fromS, wfromS, readyS, toS, wtoS, dueS] using q3
  · simpa [u3, us, fromS, wfromS, readyS, toS, wtoS, dueS] using q4
  · simpa [u3, us, fromS, wfromS, readyS, toS, wtoS, dueS] using q5
  · simpa [u3, us, fromS, wfromS, readyS, toS, wtoS, dueS] using q6
  · simpa [u3, us, fromS, wfromS, readyS, toS, wtoS, dueS] using q7
  · simpa [u3, us, fromS, wfromS, readyS, toS, wtoS, dueS] using q8
  · intro t
    have q := q9 t
    simp only [u3, us] at *; (repeat' split) <;> first | rfl | assumption | omega | (exfalso; omega) | simp_all
  · simpa [u3, us, fromS, wfromS, readyS, toS, wtoS, dueS] using q10
  · simpa [u3, us, fromS, wfromS, readyS, toS, wtoS, dueS] using q11
  · simpa [u3, us, fromS, wfromS, readyS, toS, wtoS, dueS] using q12
  · simpa [u3, us, fromS, wfromS, readyS, toS, wtoS, dueS] using q13
  · simpa [u3, us, fromS, wfromS, readyS, toS, wtoS, dueS] using q14
  · simpa [u3, us, fromS, wfromS, readyS, toS, wtoS, dueS] using q15
  · simpa [u3, us, fromS, wfromS, readyS, toS, wtoS, dueS] using q16
  · simpa [u3, us, fromS, wfromS, readyS, toS, wtoS, dueS] using q17
  · simpa [u3, us, fromS, wfromS, readyS, toS, wtoS, dueS] using q18
  · simpa [u3, us, fromS, wfromS, readyS, toS, wtoS, dueS] using q19
  · simpa [u3, us, fromS, wfromS, readyS, toS, wtoS, dueS] using q20
  · simpa [u3, us, fromS, wfromS, readyS, toS, wtoS, dueS] using q21
  · simpa [u3, us, fromS, wfromS, readyS, toS, wtoS, dueS] using q22
  · simpa [u3, us, fromS, wfromS, readyS, toS, wtoS, dueS] using q23
  · simpa [u3, us, fromS, wfromS, readyS, toS, wtoS, dueS] using q24
  · simpa [u3, us, fromS, wfromS, readyS, toS, wtoS, dueS] using q25
  · simpa [u3, us, fromS, wfromS, readyS, toS, wtoS, dueS] using q26
  · simpa [u3, us, fromS, wfromS, readyS, toS, wtoS, dueS] using q27
  · simpa [u3, us, fromS, wfromS, readyS, toS, wtoS, dueS] using q28
  · simpa [u3, us, fromS, wfromS, readyS, toS, wtoS, dueS] using q29
  · simpa [u3, us, fromS, wfromS, readyS, toS, wtoS, dueS] using q30
theorem s_sta (hw : Wd σ κ τ μ z w) {t k v : Nat} (ht : t < σ 0 2 0) (hk : k < 10) : ∃ w', pst 5 t (nI k) (nI v) w = some (.inl (), w') ∧ Wd (us σ 5 t k v) (κ) τ μ z w' := by
  refine hw.setA (by decide) (show valA w.2.2.1 5 t = true from hw.v4 ht) hk ?_
  have h := hw.cr
  obtain ⟨q0, q1, q2, q3, q4, q5, q6, q7, q8, q9, q10, q11, q12, q13, q14, q15, q16, q17, q18, q19, q20, q21, q22, q23, q24, q25, q26, q27, q28, q29, q30⟩ := h
  refine ⟨?_, ?_, ?_, ?_, ?_, ?_, ?_, ?_, ?_, ?_, ?_, ?_, ?_, ?_, ?_, ?_, ?_, ?_, ?_, ?_, ?_, ?_, ?_, ?_, ?_, ?_, ?_, ?_, ?_, ?_, ?_⟩
  · simpa [us] using q0
  · simpa [u3, us, fromS, wfromS, readyS, toS, wtoS, dueS] using q1
  · simpa [u3, us, fromS, wfromS, readyS, toS, wtoS, dueS] using q2
  · simpa [u3, us, fromS, wfromS, readyS, toS, wtoS, dueS] using q3
  · simpa [u3, us, fromS, wfromS, readyS, toS, wtoS, dueS] using q4
  · simpa [u3, us, fromS, wfromS, readyS, toS, wtoS, dueS] using q5
  · simpa [u3, us, fromS, wfromS, readyS, toS, wtoS, dueS] using q6
  · simpa [u3, us, fromS, wfromS, readyS, toS, wtoS, dueS] using q7
  · simpa [u3, us, fromS, wfromS, readyS, toS, wtoS, dueS] using q8
  · simpa [u3, us, fromS, wfromS, readyS, toS, wtoS, dueS] using q9
  · intro t k
    have q := q10 t k
    simp only [u3, us] at *; (repeat' split) <;> first | rfl | assumption | omega | (exfalso; omega) | simp_all
  · simpa [u3, us, fromS, wfromS, readyS, toS, wtoS, dueS] using q11
  · simpa [u3, us, fromS, wfromS, readyS, toS, wtoS, dueS] using q12
  · simpa [u3, us, fromS, wfromS, readyS, toS, wtoS, dueS] using q13
  · simpa [u3, us, fromS, wfromS, readyS, toS, wtoS, dueS] using q14
  · simpa [u3, us, fromS, wfromS, readyS, toS, wtoS, dueS] using q15
  · simpa [u3, us, fromS, wfromS, readyS, toS, wtoS, dueS] using q16
  · simpa [u3, us, fromS, wfromS, readyS, toS, wtoS, dueS] using q17
  · simpa [u3, us, fromS, wfromS, readyS, toS, wtoS, dueS] using q18
  · simpa [u3, us, fromS, wfromS, readyS, toS, wtoS, dueS] using q19
  · simpa [u3, us, fromS, wfromS, readyS, toS, wtoS, dueS] using q20
  · simpa [u3, us, fromS, wfromS, readyS, toS, wtoS, dueS] using q21
  · simpa [u3, us, fromS, wfromS, readyS, toS, wtoS, dueS] using q22
  · simpa [u3, us, fromS, wfromS, readyS, toS, wtoS, dueS] using q23
  · simpa [u3, us, fromS, wfromS, readyS, toS, wtoS, dueS] using q24
  · simpa [u3, us, fromS, wfromS, readyS, toS, wtoS, dueS] using q25
  · simpa [u3, us, fromS, wfromS, readyS, toS, wtoS, dueS] using q26
  · simpa [u3, us, fromS, wfromS, readyS, toS, wtoS, dueS] using q27
  · simpa [u3, us, fromS, wfromS, readyS, toS, wtoS, dueS] using q28
  · simpa [u3, us, fromS, wfromS, readyS, toS, wtoS, dueS] using q29
  · simpa [u3, us, fromS, wfromS, readyS, toS, wtoS, dueS] using q30
theorem s_min (hw : Wd σ κ τ μ z w) {t k v : Nat} (ht : t < σ 0 2 0) (hk : k < 10) : ∃ w', pst 6 t (nI k) (nI v) w = some (.inl (), w') ∧ Wd (us σ 6 t k v) (κ) τ μ z w' := by
  refine hw.setA (by decide) (show valA w.2.2.1 6 t = true from hw.v4 ht) hk ?_
  have h := hw.cr
  obtain ⟨q0, q1, q2, q3, q4, q5, q6, q7, q8, q9, q10, q11, q12, q13, q14, q15, q16, q17, q18, q19, q20, q21, q22, q23, q24, q25, q26, q27, q28, q29, q30⟩ := h
  refine ⟨?_, ?_, ?_, ?_, ?_, ?_, ?_, ?_, ?_, ?_, ?_, ?_, ?_, ?_, ?_, ?_, ?_, ?_, ?_, ?_, ?_, ?_, ?_, ?_, ?_, ?_, ?_, ?_, ?_, ?_, ?_⟩
  · simpa [us] using q0
  · simpa [u3, us, fromS, wfromS, readyS, toS, wtoS, dueS] using q1
  · simpa [u3, us, fromS, wfromS, readyS, toS, wtoS, dueS] using q2
  · simpa [u3, us, fromS, wfromS, readyS, toS, wtoS, dueS] using q3
  · simpa [u3, us, fromS, wfromS, readyS, toS, wtoS, dueS] using q4
  · simpa [u3, us, fromS, wfromS, readyS, toS, wtoS, dueS] using q5
  · simpa [u3, us, fromS, wfromS, readyS, toS, wtoS, dueS] using q6
  · simpa [u3, us, fromS, wfromS, readyS, toS, wtoS, dueS] using q7
  · simpa [u3, us, fromS, wfromS, readyS, toS, wtoS, dueS] using q8
  · simpa [u3, us, fromS, wfromS, readyS, toS, wtoS, dueS] using q9
  · simpa [u3, us, fromS, wfromS, readyS, toS, wtoS, dueS] using q10
  · intro t k
    have q := q11 t k
    simp only [u3, us] at *; (repeat' split) <;> first | rfl | assumption | omega | (exfalso; omega) | simp_all
  · simpa [u3, us, fromS, wfromS, readyS, toS, wtoS, dueS] using q12
  · simpa [u3, us, fromS, wfromS, readyS, toS, wtoS, dueS] using q13
  · simpa [u3, us, fromS, wfromS, readyS, toS, wtoS, dueS] using q14
  · simpa [u3, us, fromS, wfromS, readyS, toS, wtoS, dueS] using q15
  · simpa [u3, us, fromS, wfromS, readyS, toS, wtoS, dueS] using q16
  · simpa [u3, us, fromS, wfromS, readyS, toS, wtoS, dueS] using q17
  · simpa [u3, us, fromS, wfromS, readyS, toS, wtoS, dueS] using q18
  · simpa [u3, us, fromS, wfromS, readyS, toS, wtoS, dueS] using q19
  · simpa [u3, us, fromS, wfromS, readyS, toS, wtoS, dueS] using q20
  · simpa [u3, us, fromS, wfromS, readyS, toS, wtoS, dueS] using q21
  · simpa [u3, us, fromS, wfromS, readyS, toS, wtoS, dueS] using q22
  · simpa [u3, us, fromS, wfromS, readyS, toS, wtoS, dueS] using q23
  · simpa [u3, us, fromS, wfromS, readyS, toS, wtoS, dueS] using q24
  · simpa [u3, us, fromS, wfromS, readyS, toS, wtoS, dueS] using q25
  · simpa [u3, us, fromS, wfromS, readyS, toS, wtoS, dueS] using q26
  · simpa [u3, us, fromS, wfromS, readyS, toS, wtoS, dueS] using q27
  · simpa [u3, us, fromS, wfromS, readyS, toS, wtoS, dueS] using q28
  · simpa [u3, us, fromS, wfromS, readyS, toS, wtoS, dueS] using q29
  · simpa [u3, us, fromS, wfromS, readyS, toS, wtoS, dueS] using q30
theorem s_load (hw : Wd σ κ τ μ z w) {t k : Nat} {v : Int32} (ht : t < σ 0 2 0) (hk : k < 10) : ∃ w', pst 7 t (nI k) v w = some (.inl (), w') ∧ Wd (us σ 7 t k (eL v)) (κ) τ μ z w' := by
  refine hw.setA (by decide) (show valA w.2.2.1 7 t = true from hw.v4 ht) hk ?_
  have h := hw.cr
  obtain ⟨q0, q1, q2, q3, q4, q5, q6, q7, q8, q9, q10, q11, q12, q13, q14, q15, q16, q17, q18, q19, q20, q21, q22, q23, q24, q25, q26, q27, q28, q29, q30⟩ := h
  refine ⟨?_, ?_, ?_, ?_, ?_, ?_, ?_, ?_, ?_, ?_, ?_, ?_, ?_, ?_, ?_, ?_, ?_, ?_, ?_, ?_, ?_, ?_, ?_, ?_, ?_, ?_, ?_, ?_, ?_, ?_, ?_⟩
  · simpa [us] using q0
  · simpa [u3, us, fromS, wfromS, readyS, toS, wtoS, dueS] using q1
  · simpa [u3, us, fromS, wfromS, readyS, toS, wtoS, dueS] using q2
  · simpa [u3, us, fromS, wfromS, readyS, toS, wtoS, dueS] using q3
  · simpa [u3, us, fromS, wfromS, readyS, toS, wtoS, dueS] using q4
  · simpa [u3, us, fromS, wfromS, readyS, toS, wtoS, dueS] using q5
  · simpa [u3, us, fromS, wfromS, readyS, toS, wtoS, dueS] using q6
  · simpa [u3, us, fromS, wfromS, readyS, toS, wtoS, dueS] using q7
  · simpa [u3, us, fromS, wfromS, readyS, toS, wtoS, dueS] using q8
  · simpa [u3, us, fromS, wfromS, readyS, toS, wtoS, dueS] using q9
  · simpa [u3, us, fromS, wfromS, readyS, toS, wtoS, dueS] using q10
  · simpa [u3, us, fromS, wfromS, readyS, toS, wtoS, dueS] using q11
  · intro t k
    have q := q12 t k
    simp only [u3, us] at *; (repeat' split) <;> first | assumption | omega | (exfalso; omega) | simp_all [dL_eL]
  · simpa [u3, us, fromS, wfromS, readyS, toS, wtoS, dueS] using q13
  · simpa [u3, us, fromS, wfromS, readyS, toS, wtoS, dueS] using q14
  · simpa [u3, us, fromS, wfromS, readyS, toS, wtoS, dueS] using q15
  · simpa [u3, us, fromS, wfromS, readyS, toS, wtoS, dueS] using q16
  · simpa [u3, us, fromS, wfromS, readyS, toS, wtoS, dueS] using q17
  · simpa [u3, us, fromS, wfromS, readyS, toS, wtoS, dueS] using q18
  · simpa [u3, us, fromS, wfromS, readyS, toS, wtoS, dueS] using q19
  · simpa [u3, us, fromS, wfromS, readyS, toS, wtoS, dueS] using q20
  · simpa [u3, us, fromS, wfromS, readyS, toS, wtoS, dueS] using q21
  · simpa [u3, us, fromS, wfromS, readyS, toS, wtoS, dueS] using q22
  · simpa [u3, us, fromS, wfromS, readyS, toS, wtoS, dueS] using q23
  · simpa [u3, us, fromS, wfromS, readyS, toS, wtoS, dueS] using q24
  · simpa [u3, us, fromS, wfromS, readyS, toS, wtoS, dueS] using q25
  · simpa [u3, us, fromS, wfromS, readyS, toS, wtoS, dueS] using q26
  · simpa [u3, us, fromS, wfromS, readyS, toS, wtoS, dueS] using q27
  · simpa [u3, us, fromS, wfromS, readyS, toS, wtoS, dueS] using q28
  · simpa [u3, us, fromS, wfromS, readyS, toS, wtoS, dueS] using q29
  · simpa [u3, us, fromS, wfromS, readyS, toS, wtoS, dueS] using q30
theorem s_many (hw : Wd σ κ τ μ z w) {i v : Nat} (hi : okW σ i) : ∃ w', ppI 5 i 7 (nI v) w = some (.inl (), w') ∧ Wd (us σ 9 i 2 v) (κ) τ μ z w' := by
  refine hw.setF (by decide) (hw.v5 hi) ?_
  have h := hw.cr
  obtain ⟨q0, q1, q2, q3, q4, q5, q6, q7, q8, q9, q10, q11, q12, q13, q14, q15, q16, q17, q18, q19, q20, q21, q22, q23, q24, q25, q26, q27, q28, q29, q30⟩ := h
  refine ⟨?_, ?_, ?_, ?_, ?_, ?_, ?_, ?_, ?_, ?_, ?_, ?_, ?_, ?_, ?_, ?_, ?_, ?_, ?_, ?_, ?_, ?_, ?_, ?_, ?_, ?_, ?_, ?_, ?_, ?_, ?_⟩
  · simpa [us] using q0
  · simpa [u3, us, fromS, wfromS, readyS, toS, wtoS, dueS] using q1
  · simpa [u3, us, fromS, wfromS, readyS, toS, wtoS, dueS] using q2
  · simpa [u3, us, fromS, wfromS, readyS, toS, wtoS, dueS] using q3
  · simpa [u3, us, fromS, wfromS, readyS, toS, wtoS, dueS] using q4
  · simpa [u3, us, fromS, wfromS, readyS, toS, wtoS, dueS] using q5
  · simpa [u3, us, fromS, wfromS, readyS, toS, wtoS, dueS] using q6
  · simpa [u3, us, fromS, wfromS, readyS, toS, wtoS, dueS] using q7
  · simpa [u3, us, fromS, wfromS, readyS, toS, wtoS, dueS] using q8
  · simpa [u3, us, fromS, wfromS, readyS, toS, wtoS, dueS] using q9
  · simpa [u3, us, fromS, wfromS, readyS, toS, wtoS, dueS] using q10
  · simpa [u3, us, fromS, wfromS, readyS, toS, wtoS, dueS] using q11
  · simpa [u3, us, fromS, wfromS, readyS, toS, wtoS, dueS] using q12
  · simpa [u3, us, fromS, wfromS, readyS, toS, wtoS, dueS] using q13
  · simpa [u3, us, fromS, wfromS, readyS, toS, wtoS, dueS] using q14
  · simpa [u3, us, fromS, wfromS, readyS, toS, wtoS, dueS] using q15
  · simpa [u3, us, fromS, wfromS, readyS, toS, wtoS, dueS] using q16
  · simpa [u3, us, fromS, wfromS, readyS, toS, wtoS, dueS] using q17
  · simpa [u3, us, fromS, wfromS, readyS, toS, wtoS, dueS] using q18
  · simpa [u3, us, fromS, wfromS, readyS, toS, wtoS, dueS] using q19
  · intro w
    have q := q20 w
    simp only [u3, us] at *; (repeat' split) <;> first | rfl | assumption | omega | (exfalso; omega) | simp_all
  · intro w
    have q := q21 w
    simp only [u3, us] at *; (repeat' split) <;> first | rfl | assumption | omega | (exfalso; omega) | simp_all
  · intro w
    have q := q22 w
    simp only [u3, us] at *; (repeat' split) <;> first | rfl | assumption | omega | (exfalso; omega) | simp_all
  · intro w
    have q := q23 w
    simp only [u3, us] at *; (repeat' split) <;> first | rfl | assumption | omega | (exfalso; omega) | simp_all
  · intro w
    have q := q24 w
    simp only [u3, us] at *; (repeat' split) <;> first | rfl | assumption | omega | (exfalso; omega) | simp_all
  · simpa [u3, us, fromS, wfromS, readyS, toS, wtoS, dueS] using q25
  · simpa [u3, us, fromS, wfromS, readyS, toS, wtoS, dueS] using q26
  · simpa [u3, us, fromS, wfromS, readyS, toS, wtoS, dueS] using q27
  · simpa [u3, us, fromS, wfromS, readyS, toS, wtoS, dueS] using q28
  · simpa [u3, us, fromS, wfromS, readyS, toS, wtoS, dueS] using q29
  · simpa [u3, us, fromS, wfromS, readyS, toS, wtoS, dueS] using q30
theorem s_leg (hw : Wd σ κ τ μ z w) {i j v : Nat} (hi : okW σ i) (hj : j < 9) : ∃ w', pst 8 i (nI j) (nI v) w = some (.inl (), w') ∧ Wd (us σ 10 i j v) (κ) τ μ z w' := by
  refine hw.setA (by decide) (show valA w.2.2.1 8 i = true from hw.v5 hi) hj ?_
  have h := hw.cr
  obtain ⟨q0, q1, q2, q3, q4, q5, q6, q7, q8, q9, q10, q11, q12, q13, q14, q15, q16, q17, q18, q19, q20, q21, q22, q23, q24, q25, q26, q27, q28, q29, q30⟩ := h
  refine ⟨?_, ?_, ?_, ?_, ?_, ?_, ?_, ?_, ?_, ?_, ?_, ?_, ?_, ?_, ?_, ?_, ?_, ?_, ?_, ?_, ?_, ?_, ?_, ?_, ?_, ?_, ?_, ?_, ?_, ?_, ?_⟩
  · simpa [us] using q0
  · simpa [u3, us, fromS, wfromS, readyS, toS, wtoS, dueS] using q1
  · simpa [u3, us, fromS, wfromS, readyS, toS, wtoS, dueS] using q2
  · simpa [u3, us, fromS, wfromS, readyS, toS, wtoS, dueS] using q3
  · simpa [u3, us, fromS, wfromS, readyS, toS, wtoS, dueS] using q4
  · simpa [u3, us, fromS, wfromS, readyS, toS, wtoS, dueS] using q5
  · simpa [u3, us, fromS, wfromS, readyS, toS, wtoS, dueS] using q6
  · simpa [u3, us, fromS, wfromS, readyS, toS, wtoS, dueS] using q7
  · simpa [u3, us, fromS, wfromS, readyS, toS, wtoS, dueS] using q8
  · simpa [u3, us, fromS, wfromS, readyS, toS, wtoS, dueS] using q9
  · simpa [u3, us, fromS, wfromS, readyS, toS, wtoS, dueS] using q10
  · simpa [u3, us, fromS, wfromS, readyS, toS, wtoS, dueS] using q11
  · simpa [u3, us, fromS, wfromS, readyS, toS, wtoS, dueS] using q12
  · simpa [u3, us, fromS, wfromS, readyS, toS, wtoS, dueS] using q13
  · simpa [u3, us, fromS, wfromS, readyS, toS, wtoS, dueS] using q14
  · simpa [u3, us, fromS, wfromS, readyS, toS, wtoS, dueS] using q15
  · simpa [u3, us, fromS, wfromS, readyS, toS, wtoS, dueS] using q16
  · simpa [u3, us, fromS, wfromS, readyS, toS, wtoS, dueS] using q17
  · simpa [u3, us, fromS, wfromS, readyS, toS, wtoS, dueS] using q18
  · simpa [u3, us, fromS, wfromS, readyS, toS, wtoS, dueS] using q19
  · simpa [u3, us, fromS, wfromS, readyS, toS, wtoS, dueS] using q20
  · simpa [u3, us, fromS, wfromS, readyS, toS, wtoS, dueS] using q21
  · simpa [u3, us, fromS, wfromS, readyS, toS, wtoS, dueS] using q22
  · simpa [u3, us, fromS, wfromS, readyS, toS, wtoS, dueS] using q23
  · simpa [u3, us, fromS, wfromS, readyS, toS, wtoS, dueS] using q24
  · simpa [u3, us, fromS, wfromS, readyS, toS, wtoS, dueS] using q25
  · intro w j
    have q := q26 w j
    simp only [u3, us] at *; (repeat' split) <;> first | rfl | assumption | omega | (exfalso; omega) | simp_all
  · simpa [u3, us, fromS, wfromS, readyS, toS, wtoS, dueS] using q27
  · simpa [u3, us, fromS, wfromS, readyS, toS, wtoS, dueS] using q28
  · simpa [u3, us, fromS, wfromS, readyS, toS, wtoS, dueS] using q29
  · simpa [u3, us, fromS, wfromS, readyS, toS, wtoS, dueS] using q30
theorem s_off (hw : Wd σ κ τ μ z w) {i v : Nat} (hi : okW σ i) : ∃ w', ppI 5 i 12 (nI v) w = some (.inl (), w') ∧ Wd (σ) (us κ 3 i 0 v) τ μ z w' := by
  refine hw.setF (by decide) (hw.v5 hi) ?_
  have h := hw.cr
  obtain ⟨q0, q1, q2, q3, q4, q5, q6, q7, q8, q9, q10, q11, q12, q13, q14, q15, q16, q17, q18, q19, q20, q21, q22, q23, q24, q25, q26, q27, q28, q29, q30⟩ := h
  refine ⟨?_, ?_, ?_, ?_, ?_, ?_, ?_, ?_, ?_, ?_, ?_, ?_, ?_, ?_, ?_, ?_, ?_, ?_, ?_, ?_, ?_, ?_, ?_, ?_, ?_, ?_, ?_, ?_, ?_, ?_, ?_⟩
  · simpa [us] using q0
  · simpa [u3, us, fromS, wfromS, readyS, toS, wtoS, dueS] using q1
  · simpa [u3, us, fromS, wfromS, readyS, toS, wtoS, dueS] using q2
  · simpa [u3, us, fromS, wfromS, readyS, toS, wtoS, dueS] using q3
  · simpa [u3, us, fromS, wfromS, readyS, toS, wtoS, dueS] using q4
  · simpa [u3, us, fromS, wfromS, readyS, toS, wtoS, dueS] using q5
  · simpa [u3, us, fromS, wfromS, readyS, toS, wtoS, dueS] using q6
  · simpa [u3, us, fromS, wfromS, readyS, toS, wtoS, dueS] using q7
  · simpa [u3, us, fromS, wfromS, readyS, toS, wtoS, dueS] using q8
  · simpa [u3, us, fromS, wfromS, readyS, toS, wtoS, dueS] using q9
  · simpa [u3, us, fromS, wfromS, readyS, toS, wtoS, dueS] using q10
  · simpa [u3, us, fromS, wfromS, readyS, toS, wtoS, dueS] using q11
  · simpa [u3, us, fromS, wfromS, readyS, toS, wtoS, dueS] using q12
  · simpa [u3, us, fromS, wfromS, readyS, toS, wtoS, dueS] using q13
  · simpa [u3, us, fromS, wfromS, readyS, toS, wtoS, dueS] using q14
  · simpa [u3, us, fromS, wfromS, readyS, toS, wtoS, dueS] using q15
  · simpa [u3, us, fromS, wfromS, readyS, toS, wtoS, dueS] using q16
  · simpa [u3, us, fromS, wfromS, readyS, toS, wtoS, dueS] using q17
  · simpa [u3, us, fromS, wfromS, readyS, toS, wtoS, dueS] using q18
  · simpa [u3, us, fromS, wfromS, readyS, toS, wtoS, dueS] using q19
  · simpa [u3, us, fromS, wfromS, readyS, toS, wtoS, dueS] using q20
  · simpa [u3, us, fromS, wfromS, readyS, toS, wtoS, dueS] using q21
  · simpa [u3, us, fromS, wfromS, readyS, toS, wtoS, dueS] using q22
  · simpa [u3, us, fromS, wfromS, readyS, toS, wtoS, dueS] using q23
  · simpa [u3, us, fromS, wfromS, readyS, toS, wtoS, dueS] using q24
  · intro w
    have q := q25 w
    simp only [u3, us] at *; (repeat' split) <;> first | rfl | assumption | omega | (exfalso; omega) | simp_all
  · simpa [u3, us, fromS, wfromS, readyS, toS, wtoS, dueS] using q26
  · simpa [u3, us, fromS, wfromS, readyS, toS, wtoS, dueS] using q27
  · simpa [u3, us, fromS, wfromS, readyS, toS, wtoS, dueS] using q28
  · simpa [u3, us, fromS, wfromS, readyS, toS, wtoS, dueS] using q29
  · simpa [u3, us, fromS, wfromS, readyS, toS, wtoS, dueS] using q30
theorem s_earl (hw : Wd σ κ τ μ z w) {l i v : Nat} (hl : l < 4) (hi : i < 10) : ∃ w', pst 3 l (nI i) (nI v) w = some (.inl (), w') ∧ Wd (σ) (us κ 0 l i v) τ μ z w' := by
  refine hw.setA (by decide) (show valA w.2.2.1 3 l = true by simp [valA, hl]) hi ?_
  have h := hw.cr
  obtain ⟨q0, q1, q2, q3, q4, q5, q6, q7, q8, q9, q10, q11, q12, q13, q14, q15, q16, q17, q18, q19, q20, q21, q22, q23, q24, q25, q26, q27, q28, q29, q30⟩ := h
  refine ⟨?_, ?_, ?_, ?_, ?_, ?_, ?_, ?_, ?_, ?_, ?_, ?_, ?_, ?_, ?_, ?_, ?_, ?_, ?_, ?_, ?_, ?_, ?_, ?_, ?_, ?_, ?_, ?_, ?_, ?_, ?_⟩
  · simpa [us] using q0
  · simpa [u3, us, fromS, wfromS, readyS, toS, wtoS, dueS] using q1
  · simpa [u3, us, fromS, wfromS, readyS, toS, wtoS, dueS] using q2
  · simpa [u3, us, fromS, wfromS, readyS, toS, wtoS, dueS] using q3
  · simpa [u3, us, fromS, wfromS, readyS, toS, wtoS, dueS] using q4
  · simpa [u3, us, fromS, wfromS, readyS, toS, wtoS, dueS] using q5
  · simpa [u3, us, fromS, wfromS, readyS, toS, wtoS, dueS] using q6
  · simpa [u3, us, fromS, wfromS, readyS, toS, wtoS, dueS] using q7
  · simpa [u3, us, fromS, wfromS, readyS, toS, wtoS, dueS] using q8
  · simpa [u3, us, fromS, wfromS, readyS, toS, wtoS, dueS] using q9
  · simpa [u3, us, fromS, wfromS, readyS, toS, wtoS, dueS] using q10
  · simpa [u3, us, fromS, wfromS, readyS, toS, wtoS, dueS] using q11
  · simpa [u3, us, fromS, wfromS, readyS, toS, wtoS, dueS] using q12
  · simpa [u3, us, fromS, wfromS, readyS, toS, wtoS, dueS] using q13
  · simpa [u3, us, fromS, wfromS, readyS, toS, wtoS, dueS] using q14
  · simpa [u3, us, fromS, wfromS, readyS, toS, wtoS, dueS] using q15
  · simpa [u3, us, fromS, wfromS, readyS, toS, wtoS, dueS] using q16
  · simpa [u3, us, fromS, wfromS, readyS, toS, wtoS, dueS] using q17
  · simpa [u3, us, fromS, wfromS, readyS, toS, wtoS, dueS] using q18
  · simpa [u3, us, fromS, wfromS, readyS, toS, wtoS, dueS] using q19
  · simpa [u3, us, fromS, wfromS, readyS, toS, wtoS, dueS] using q20
  · simpa [u3, us, fromS, wfromS, readyS, toS, wtoS, dueS] using q21
  · simpa [u3, us, fromS, wfromS, readyS, toS, wtoS, dueS] using q22
  · simpa [u3, us, fromS, wfromS, readyS, toS, wtoS, dueS] using q23
  · simpa [u3, us, fromS, wfromS, readyS, toS, wtoS, dueS] using q24
  · simpa [u3, us, fromS, wfromS, readyS, toS, wtoS, dueS] using q25
  · simpa [u3, us, fromS, wfromS, readyS, toS, wtoS, dueS] using q26
  · simpa [u3, us, fromS, wfromS, readyS, toS, wtoS, dueS] using q27
  · intro l i
    have q := q28 l i
    simp only [u3, us] at *; (repeat' split) <;> first | rfl | assumption | omega | (exfalso; omega) | simp_all
  · simpa [u3, us, fromS, wfromS, readyS, toS, wtoS, dueS] using q29
  · simpa [u3, us, fromS, wfromS, readyS, toS, wtoS, dueS] using q30
theorem s_late (hw : Wd σ κ τ μ z w) {l i v : Nat} (hl : l < 3) (hi : i < 10) : ∃ w', pst 4 l (nI i) (m1 v) w = some (.inl (), w') ∧ Wd (σ) (us κ 1 l i v) τ μ z w' := by
  refine hw.setA (by decide) (show valA w.2.2.1 4 l = true by simp [valA, hl]) hi ?_
  have h := hw.cr
  obtain ⟨q0, q1, q2, q3, q4, q5, q6, q7, q8, q9, q10, q11, q12, q13, q14, q15, q16, q17, q18, q19, q20, q21, q22, q23, q24, q25, q26, q27, q28, q29, q30⟩ := h
  refine ⟨?_, ?_, ?_, ?_, ?_, ?_, ?_, ?_, ?_, ?_, ?_, ?_, ?_, ?_, ?_, ?_, ?_, ?_, ?_, ?_, ?_, ?_, ?_, ?_, ?_, ?_, ?_, ?_, ?_, ?_, ?_⟩
  · simpa [us] using q0
  · simpa [u3, us, fromS, wfromS, readyS, toS, wtoS, dueS] using q1
  · simpa [u3, us, fromS, wfromS, readyS, toS, wtoS, dueS] using q2
  · simpa [u3, us, fromS, wfromS, readyS, toS, wtoS, dueS] using q3
  · simpa [u3, us, fromS, wfromS, readyS, toS, wtoS, dueS] using q4
  · simpa [u3, us, fromS, wfromS, readyS, toS, wtoS, dueS] using q5
  · simpa [u3, us, fromS, wfromS, readyS, toS, wtoS, dueS] using q6
  · simpa [u3, us, fromS, wfromS, readyS, toS, wtoS, dueS] using q7
  · simpa [u3, us, fromS, wfromS, readyS, toS, wtoS, dueS] using q8
  · simpa [u3, us, fromS, wfromS, readyS, toS, wtoS, dueS] using q9
  · simpa [u3, us, fromS, wfromS, readyS, toS, wtoS, dueS] using q10
  · simpa [u3, us, fromS, wfromS, readyS, toS, wtoS, dueS] using q11
  · simpa [u3, us, fromS, wfromS, readyS, toS, wtoS, dueS] using q12
  · simpa [u3, us, fromS, wfromS, readyS, toS, wtoS, dueS] using q13
  · simpa [u3, us, fromS, wfromS, readyS, toS, wtoS, dueS] using q14
  · simpa [u3, us, fromS, wfromS, readyS, toS, wtoS, dueS] using q15
  · simpa [u3, us, fromS, wfromS, readyS, toS, wtoS, dueS] using q16
  · simpa [u3, us, fromS, wfromS, readyS, toS, wtoS, dueS] using q17
  · simpa [u3, us, fromS, wfromS, readyS, toS, wtoS, dueS] using q18
  · simpa [u3, us, fromS, wfromS, readyS, toS, wtoS, dueS] using q19
  · simpa [u3, us, fromS, wfromS, readyS, toS, wtoS, dueS] using q20
  · simpa [u3, us, fromS, wfromS, readyS, toS, wtoS, dueS] using q21
  · simpa [u3, us, fromS, wfromS, readyS, toS, wtoS, dueS] using q22
  · simpa [u3, us, fromS, wfromS, readyS, toS, wtoS, dueS] using q23
  · simpa [u3, us, fromS, wfromS, readyS, toS, wtoS, dueS] using q24
  · simpa [u3, us, fromS, wfromS, readyS, toS, wtoS, dueS] using q25
  · simpa [u3, us, fromS, wfromS, readyS, toS, wtoS, dueS] using q26
  · simpa [u3, us, fromS, wfromS, readyS, toS, wtoS, dueS] using q27
  · simpa [u3, us, fromS, wfromS, readyS, toS, wtoS, dueS] using q28
  · intro l i
    have q := q29 l i
    simp only [u3, us] at *; (repeat' split) <;> first | rfl | assumption | omega | (exfalso; omega) | simp_all
  · simpa [u3, us, fromS, wfromS, readyS, toS, wtoS, dueS] using q30
theorem s_marks (hw : Wd σ κ τ μ z w) {i v : Nat} (hi : i < 60) : ∃ w', pst 2 0 (nI i) (m1 v) w = some (.inl (), w') ∧ Wd (σ) (us κ 2 0 i v) τ μ z w' := by
  refine hw.setA (by decide) rfl hi ?_
  have h := hw.cr
  obtain ⟨q0, q1, q2, q3, q4, q5, q6, q7, q8, q9, q10, q11, q12, q13, q14, q15, q16, q17, q18, q19, q20, q21, q22, q23, q24, q25, q26, q27, q28, q29, q30⟩ := h
  refine ⟨?_, ?_, ?_, ?_, ?_, ?_, ?_, ?_, ?_, ?_, ?_, ?_, ?_, ?_, ?_, ?_, ?_, ?_, ?_, ?_, ?_, ?_, ?_, ?_, ?_, ?_, ?_, ?_, ?_, ?_, ?_⟩
  · simpa [us] using q0
  · simpa [u3, us, fromS, wfromS, readyS, toS, wtoS, dueS] using q1
  · simpa [u3, us, fromS, wfromS, readyS, toS, wtoS, dueS] using q2
  · simpa [u3, us, fromS, wfromS, readyS, toS, wtoS, dueS] using q3
  · simpa [u3, us, fromS, wfromS, readyS, toS, wtoS, dueS] using q4
  · simpa [u3, us, fromS, wfromS, readyS, toS, wtoS, dueS] using q5
  · simpa [u3, us, fromS, wfromS, readyS, toS, wtoS, dueS] using q6
  · simpa [u3, us, fromS, wfromS, readyS, toS, wtoS, dueS] using q7
  · simpa [u3, us, fromS, wfromS, readyS, toS, wtoS, dueS] using q8
  · simpa [u3, us, fromS, wfromS, readyS, toS, wtoS, dueS] using q9
  · simpa [u3, us, fromS, wfromS, readyS, toS, wtoS, dueS] using q10
  · simpa [u3, us, fromS, wfromS, readyS, toS, wtoS, dueS] using q11
  · simpa [u3, us, fromS, wfromS, readyS, toS, wtoS, dueS] using q12
  · simpa [u3, us, fromS, wfromS, readyS, toS, wtoS, dueS] using q13
  · simpa [u3, us, fromS, wfromS, readyS, toS, wtoS, dueS] using q14
  · simpa [u3, us, fromS, wfromS, readyS, toS, wtoS, dueS] using q15
  · simpa [u3, us, fromS, wfromS, readyS, toS, wtoS, dueS] using q16
  · simpa [u3, us, fromS, wfromS, readyS, toS, wtoS, dueS] using q17
  · simpa [u3, us, fromS, wfromS, readyS, toS, wtoS, dueS] using q18
  · simpa [u3, us, fromS, wfromS, readyS, toS, wtoS, dueS] using q19
  · simpa [u3, us, fromS, wfromS, readyS, toS, wtoS, dueS] using q20
  · simpa [u3, us, fromS, wfromS, readyS, toS, wtoS, dueS] using q21
  · simpa [u3, us, fromS, wfromS, readyS, toS, wtoS, dueS] using q22
  · simpa [u3, us, fromS, wfromS, readyS, toS, wtoS, dueS] using q23
  · simpa [u3, us, fromS, wfromS, readyS, toS, wtoS, dueS] using q24
  · simpa [u3, us, fromS, wfromS, readyS, toS, wtoS, dueS] using q25
  · simpa [u3, us, fromS, wfromS, readyS, toS, wtoS, dueS] using q26
  · simpa [u3, us, fromS, wfromS, readyS, toS, wtoS, dueS] using q27
  · simpa [u3, us, fromS, wfromS, readyS, toS, wtoS, dueS] using q28
  · simpa [u3, us, fromS, wfromS, readyS, toS, wtoS, dueS] using q29
  · intro i
    have q := q30 i
    simp only [u3, us] at *; (repeat' split) <;> first | rfl | assumption | omega | (exfalso; omega) | simp_all
theorem t_code (hw : Wd σ κ τ μ z w) {v : Nat} : ∃ w', ppI 7 0 0 (nI v) w = some (.inl (), w') ∧ Wd σ κ (τ) (us μ 5 0 0 v) z w' := by
  refine hw.setF7 ?_
  have h := hw.mr
  obtain ⟨q1, q2, q3, q4, q5, q6, q7, q8, q9, q10, q11, q12, q13, q14, q15, q16, q17, q18, q19, q20, q21, q22, q23, q24, q25, q26, q27, q28, q29, q30, q31, q32, q33, q34, q35, q36, q37, q38⟩ := h
  refine ⟨?_, ?_, ?_, ?_, ?_, ?_, ?_, ?_, ?_, ?_, ?_, ?_, ?_, ?_, ?_, ?_, ?_, ?_, ?_, ?_, ?_, ?_, ?_, ?_, ?_, ?_, ?_, ?_, ?_, ?_, ?_, ?_, ?_, ?_, ?_, ?_, ?_, ?_⟩
  · skip
    have q := q1
    simp only [u3, us] at *; (repeat' split) <;> first | rfl | assumption | omega | (exfalso; omega) | simp_all
  · simpa [u3, us, fromS, wfromS, readyS, toS, wtoS, dueS] using q2
  · simpa [u3, us, fromS, wfromS, readyS, toS, wtoS, dueS] using q3
  · simpa [u3, us, fromS, wfromS, readyS, toS, wtoS, dueS] using q4
  · simpa [u3, us, fromS, wfromS, readyS, toS, wtoS, dueS] using q5
  · simpa [u3, us, fromS, wfromS, readyS, toS, wtoS, dueS] using q6
  · simpa [u3, us, fromS, wfromS, readyS, toS, wtoS, dueS] using q7
  · simpa [u3, us, fromS, wfromS, readyS, toS, wtoS, dueS] using q8
  · simpa [u3, us, fromS, wfromS, readyS, toS, wtoS, dueS] using q9
  · simpa [u3, us, fromS, wfromS, readyS, toS, wtoS, dueS] using q10
  · simpa [u3, us, fromS, wfromS, readyS, toS, wtoS, dueS] using q11
  · simpa [u3, us, fromS, wfromS, readyS, toS, wtoS, dueS] using q12
  · simpa [u3, us, fromS, wfromS, readyS, toS, wtoS, dueS] using q13
  · simpa [u3, us, fromS, wfromS, readyS, toS, wtoS, dueS] using q14
  · simpa [u3, us, fromS, wfromS, readyS, toS, wtoS, dueS] using q15
  · simpa [u3, us, fromS, wfromS, readyS, toS, wtoS, dueS] using q16
  · simpa [u3, us, fromS, wfromS, readyS, toS, wtoS, dueS] using q17
  · simpa [u3, us, fromS, wfromS, readyS, toS, wtoS, dueS] using q18
  · simpa [u3, us, fromS, wfromS, readyS, toS, wtoS, dueS] using q19
  · simpa [u3, us, fromS, wfromS, readyS, toS, wtoS, dueS] using q20
  · simpa [u3, us, fromS, wfromS, readyS, toS, wtoS, dueS] using q21
  · simpa [u3, us, fromS, wfromS, readyS, toS, wtoS, dueS] using q22
  · simpa [u3, us, fromS, wfromS, readyS, toS, wtoS, dueS] using q23
  · simpa [u3, us, fromS, wfromS, readyS, toS, wtoS, dueS] using q24
  · simpa [u3, us, fromS, wfromS, readyS, toS, wtoS, dueS] using q25
  · simpa [u3, us, fromS, wfromS, readyS, toS, wtoS, dueS] using q26
  · simpa [u3, us, fromS, wfromS, readyS, toS, wtoS, dueS] using q27
  · simpa [u3, us, fromS, wfromS, readyS, toS, wtoS, dueS] using q28
  · simpa [u3, us, fromS, wfromS, readyS, toS, wtoS, dueS] using q29
  · simpa [u3, us, fromS, wfromS, readyS, toS, wtoS, dueS] using q30
  · simpa [u3, us, fromS, wfromS, readyS, toS, wtoS, dueS] using q31
  · simpa [u3, us, fromS, wfromS, readyS, toS, wtoS, dueS] using q32
  · simpa [u3, us, fromS, wfromS, readyS, toS, wtoS, dueS] using q33
  · simpa [u3, us, fromS, wfromS, readyS, toS, wtoS, dueS] using q34
  · simpa [u3, us, fromS, wfromS, readyS, toS, wtoS, dueS] using q35
  · simpa [u3, us, fromS, wfromS, readyS, toS, wtoS, dueS] using q36
  · simpa [u3, us, fromS, wfromS, readyS, toS, wtoS, dueS] using q37
  · simpa [u3, us, fromS, wfromS, readyS, toS, wtoS, dueS] using q38
theorem t_bT (hw : Wd σ κ τ μ z w) {v : Nat} : ∃ w', ppI 7 0 32 (nI v) w = some (.inl (), w') ∧ Wd σ κ (τ) (us μ 2 0 0 v) z w' := by
  refine hw.setF7 ?_
  have h := hw.mr
  obtain ⟨q1, q2, q3, q4, q5, q6, q7, q8, q9, q10, q11, q12, q13, q14, q15, q16, q17, q18, q19, q20, q21, q22, q23, q24, q25, q26, q27, q28, q29, q30, q31, q32, q33, q34, q35, q36, q37, q38⟩ := h
  refine ⟨?_, ?_, ?_, ?_, ?_, ?_, ?_, ?_, ?_, ?_, ?_, ?_, ?_, ?_, ?_, ?_, ?_, ?_, ?_, ?_, ?_, ?_, ?_, ?_, ?_, ?_, ?_, ?_, ?_, ?_, ?_, ?_, ?_, ?_, ?_, ?_, ?_, ?_⟩
  · simpa [u3, us, fromS, wfromS, readyS, toS, wtoS, dueS] using q1
  · simpa [u3, us, fromS, wfromS, readyS, toS, wtoS, dueS] using q2
  · simpa [u3, us, fromS, wfromS, readyS, toS, wtoS, dueS] using q3
  · simpa [u3, us, fromS, wfromS, readyS, toS, wtoS, dueS] using q4
  · simpa [u3, us, fromS, wfromS, readyS, toS, wtoS, dueS] using q5
  · simpa [u3, us, fromS, wfromS, readyS, toS, wtoS, dueS] using q6
  · simpa [u3, us, fromS, wfromS, readyS, toS, wtoS, dueS] using q7
  · simpa [u3, us, fromS, wfromS, readyS, toS, wtoS, dueS] using q8
  · simpa [u3, us, fromS, wfromS, readyS, toS, wtoS, dueS] using q9
  · simpa [u3, us, fromS, wfromS, readyS, toS, wtoS, dueS] using q10
  · simpa [u3, us, fromS, wfromS, readyS, toS, wtoS, dueS] using q11
  · simpa [u3, us, fromS, wfromS, readyS, toS, wtoS, dueS] using q12
  · simpa [u3, us, fromS, wfromS, readyS, toS, wtoS, dueS] using q13
  · simpa [u3, us, fromS, wfromS, readyS, toS, wtoS, dueS] using q14
  · simpa [u3, us, fromS, wfromS, readyS, toS, wtoS, dueS] using q15
  · simpa [u3, us, fromS, wfromS, readyS, toS, wtoS, dueS] using q16
  · simpa [u3, us, fromS, wfromS, readyS, toS, wtoS, dueS] using q17
  · simpa [u3, us, fromS, wfromS, readyS, toS, wtoS, dueS] using q18
  · simpa [u3, us, fromS, wfromS, readyS, toS, wtoS, dueS] using q19
  · simpa [u3, us, fromS, wfromS, readyS, toS, wtoS, dueS] using q20
  · simpa [u3, us, fromS, wfromS, readyS, toS, wtoS, dueS] using q21
  · simpa [u3, us, fromS, wfromS, readyS, toS, wtoS, dueS] using q22
  · simpa [u3, us, fromS, wfromS, readyS, toS, wtoS, dueS] using q23
  · simpa [u3, us, fromS, wfromS, readyS, toS, wtoS, dueS] using q24
  · simpa [u3, us, fromS, wfromS, readyS, toS, wtoS, dueS] using q25
  · simpa [u3, us, fromS, wfromS, readyS, toS, wtoS, dueS] using q26
  · simpa [u3, us, fromS, wfromS, readyS, toS, wtoS, dueS] using q27
  · simpa [u3, us, fromS, wfromS, readyS, toS, wtoS, dueS] using q28
  · simpa [u3, us, fromS, wfromS, readyS, toS, wtoS, dueS] using q29
  · simpa [u3, us, fromS, wfromS, readyS, toS, wtoS, dueS] using q30
  · simpa [u3, us, fromS, wfromS, readyS, toS, wtoS, dueS] using q31
  · simpa [u3, us, fromS, wfromS, readyS, toS, wtoS, dueS] using q32
  · skip
    have q := q33
    simp only [u3, us] at *; (repeat' split) <;> first | rfl | assumption | omega | (exfalso; omega) | simp_all
  · simpa [u3, us, fromS, wfromS, readyS, toS, wtoS, dueS] using q34
  · simpa [u3, us, fromS, wfromS, readyS, toS, wtoS, dueS] using q35
  · simpa [u3, us, fromS, wfromS, readyS, toS, wtoS, dueS] using q36
  · simpa [u3, us, fromS, wfromS, readyS, toS, wtoS, dueS] using q37
  · simpa [u3, us, fromS, wfromS, readyS, toS, wtoS, dueS] using q38
theorem t_bL (hw : Wd σ κ τ μ z w) {v : Nat} : ∃ w', ppI 7 0 33 (nI v) w = some (.inl (), w') ∧ Wd σ κ (τ) (us μ 2 1 0 v) z w' := by
  refine hw.setF7 ?_
  have h := hw.mr
  obtain ⟨q1, q2, q3, q4, q5, q6, q7, q8, q9, q10, q11, q12, q13, q14, q15, q16, q17, q18, q19, q20, q21, q22, q23, q24, q25, q26, q27, q28, q29, q30, q31, q32, q33, q34, q35, q36, q37, q38⟩ := h
  refine ⟨?_, ?_, ?_, ?_, ?_, ?_, ?_, ?_, ?_, ?_, ?_, ?_, ?_, ?_, ?_, ?_, ?_, ?_, ?_, ?_, ?_, ?_, ?_, ?_, ?_, ?_, ?_, ?_, ?_, ?_, ?_, ?_, ?_, ?_, ?_, ?_, ?_, ?_⟩
  · simpa [u3, us, fromS, wfromS, readyS, toS, wtoS, dueS] using q1
  · simpa [u3, us, fromS, wfromS, readyS, toS, wtoS, dueS] using q2
  · simpa [u3, us, fromS, wfromS, readyS, toS, wtoS, dueS] using q3
  · simpa [u3, us, fromS, wfromS, readyS, toS, wtoS, dueS] using q4
  · simpa [u3, us, fromS, wfromS, readyS, toS, wtoS, dueS] using q5
  · simpa [u3, us, fromS, wfromS, readyS, toS, wtoS, dueS] using q6
  · simpa [u3, us, fromS, wfromS, readyS, toS, wtoS, dueS] using q7
  · simpa [u3, us, fromS, wfromS, readyS, toS, wtoS, dueS] using q8
  · simpa [u3, us, fromS, wfromS, readyS, toS, wtoS, dueS] using q9
  · simpa [u3, us, fromS, wfromS, readyS, toS, wtoS, dueS] using q10
  · simpa [u3, us, fromS, wfromS, readyS, toS, wtoS, dueS] using q11
  · simpa [u3, us, fromS, wfromS, readyS, toS, wtoS, dueS] using q12
  · simpa [u3, us, fromS, wfromS, readyS, toS, wtoS, dueS] using q13
  · simpa [u3, us, fromS, wfromS, readyS, toS, wtoS, dueS] using q14
  · simpa [u3, us, fromS, wfromS, readyS, toS, wtoS, dueS] using q15
  · simpa [u3, us, fromS, wfromS, readyS, toS, wtoS, dueS] using q16
  · simpa [u3, us, fromS, wfromS, readyS, toS, wtoS, dueS] using q17
  · simpa [u3, us, fromS, wfromS, readyS, toS, wtoS, dueS] using q18
  · simpa [u3, us, fromS, wfromS, readyS, toS, wtoS, dueS] using q19
  · simpa [u3, us, fromS, wfromS, readyS, toS, wtoS, dueS] using q20
  · simpa [u3, us, fromS, wfromS, readyS, toS, wtoS, dueS] using q21
  · simpa [u3, us, fromS, wfromS, readyS, toS, wtoS, dueS] using q22
  · simpa [u3, us, fromS, wfromS, readyS, toS, wtoS, dueS] using q23
  · simpa [u3, us, fromS, wfromS, readyS, toS, wtoS, dueS] using q24
  · simpa [u3, us, fromS, wfromS, readyS, toS, wtoS, dueS] using q25
  · simpa [u3, us, fromS, wfromS, readyS, toS, wtoS, dueS] using q26
  · simpa [u3, us, fromS, wfromS, readyS, toS, wtoS, dueS] using q27
  · simpa [u3, us, fromS, wfromS, readyS, toS, wtoS, dueS] using q28
  · simpa [u3, us, fromS, wfromS, readyS, toS, wtoS, dueS] using q29
  · simpa [u3, us, fromS, wfromS, readyS, toS, wtoS, dueS] using q30
  · simpa [u3, us, fromS, wfromS, readyS, toS, wtoS, dueS] using q31
  · simpa [u3, us, fromS, wfromS, readyS, toS, wtoS, dueS] using q32
  · simpa [u3, us, fromS, wfromS, readyS, toS, wtoS, dueS] using q33
  · skip
    have q := q34
    simp only [u3, us] at *; (repeat' split) <;> first | rfl | assumption | omega | (exfalso; omega) | simp_all
  · simpa [u3, us, fromS, wfromS, readyS, toS, wtoS, dueS] using q35
  · simpa [u3, us, fromS, wfromS, readyS, toS, wtoS, dueS] using q36
  · simpa [u3, us, fromS, wfromS, readyS, toS, wtoS, dueS] using q37
  · simpa [u3, us, fromS, wfromS, readyS, toS, wtoS, dueS] using q38
theorem t_bon (hw : Wd σ κ τ μ z w) {v : Nat} : ∃ w', ppI 7 0 35 (nI v) w = some (.inl (), w') ∧ Wd σ κ (τ) (us μ 2 3 0 v) z w' := by
  refine hw.setF7 ?_
  have h := hw.mr
  obtain ⟨q1, q2, q3, q4, q5, q6, q7, q8, q9, q10, q11, q12, q13, q14, q15, q16, q17, q18, q19, q20, q21, q22, q23, q24, q25, q26, q27, q28, q29, q30, q31, q32, q33, q34, q35, q36, q37, q38⟩ := h
  refine ⟨?_, ?_, ?_, ?_, ?_, ?_, ?_, ?_, ?_, ?_, ?_, ?_, ?_, ?_, ?_, ?_, ?_, ?_, ?_, ?_, ?_, ?_, ?_, ?_, ?_, ?_, ?_, ?_, ?_, ?_, ?_, ?_, ?_, ?_, ?_, ?_, ?_, ?_⟩
  · simpa [u3, us, fromS, wfromS, readyS, toS, wtoS, dueS] using q1
  · simpa [u3, us, fromS, wfromS, readyS, toS, wtoS, dueS] using q2
  · simpa [u3, us, fromS, wfromS, readyS, toS, wtoS, dueS] using q3
  · simpa [u3, us, fromS, wfromS, readyS, toS, wtoS, dueS] using q4
  · simpa [u3, us, fromS, wfromS, readyS, toS, wtoS, dueS] using q5
  · simpa [u3, us, fromS, wfromS, readyS, toS, wtoS, dueS] using q6
  · simpa [u3, us, fromS, wfromS, readyS, toS, wtoS, dueS] using q7
  · simpa [u3, us, fromS, wfromS, readyS, toS, wtoS, dueS] using q8
  · simpa [u3, us, fromS, wfromS, readyS, toS, wtoS, dueS] using q9
  · simpa [u3, us, fromS, wfromS, readyS, toS, wtoS, dueS] using q10
  · simpa [u3, us, fromS, wfromS, readyS, toS, wtoS, dueS] using q11
  · simpa [u3, us, fromS, wfromS, readyS, toS, wtoS, dueS] using q12
  · simpa [u3, us, fromS, wfromS, readyS, toS, wtoS, dueS] using q13
  · simpa [u3, us, fromS, wfromS, readyS, toS, wtoS, dueS] using q14
  · simpa [u3, us, fromS, wfromS, readyS, toS, wtoS, dueS] using q15
  · simpa [u3, us, fromS, wfromS, readyS, toS, wtoS, dueS] using q16
  · simpa [u3, us, fromS, wfromS, readyS, toS, wtoS, dueS] using q17
  · simpa [u3, us, fromS, wfromS, readyS, toS, wtoS, dueS] using q18
  · simpa [u3, us, fromS, wfromS, readyS, toS, wtoS, dueS] using q19
  · simpa [u3, us, fromS, wfromS, readyS, toS, wtoS, dueS] using q20
  · simpa [u3, us, fromS, wfromS, readyS, toS, wtoS, dueS] using q21
  · simpa [u3, us, fromS, wfromS, readyS, toS, wtoS, dueS] using q22
  · simpa [u3, us, fromS, wfromS, readyS, toS, wtoS, dueS] using q23
  · simpa [u3, us, fromS, wfromS, readyS, toS, wtoS, dueS] using q24
  · simpa [u3, us, fromS, wfromS, readyS, toS, wtoS, dueS] using q25
  · simpa [u3, us, fromS, wfromS, readyS, toS, wtoS, dueS] using q26
  · simpa [u3, us, fromS, wfromS, readyS, toS, wtoS, dueS] using q27
  · simpa [u3, us, fromS, wfromS, readyS, toS, wtoS, dueS] using q28
  · simpa [u3, us, fromS, wfromS, readyS, toS, wtoS, dueS] using q29
  · simpa [u3, us, fromS, wfromS, readyS, toS, wtoS, dueS] using q30
  · simpa [u3, us, fromS, wfromS, readyS, toS, wtoS, dueS] using q31
  · simpa [u3, us, fromS, wfromS, readyS, toS, wtoS, dueS] using q32
  · simpa [u3, us, fromS, wfromS, readyS, toS, wtoS, dueS] using q33
  · simpa [u3, us, fromS, wfromS, readyS, toS, wtoS, dueS] using q34
  · simpa [u3, us, fromS, wfromS, readyS, toS, wtoS, dueS] using q35
  · skip
    have q := q36
    simp only [u3, us] at *; (repeat' split) <;> first | rfl | assumption | omega | (exfalso; omega) | simp_all
  · simpa [u3, us, fromS, wfromS, readyS, toS, wtoS, dueS] using q37
  · simpa [u3, us, fromS, wfromS, readyS, toS, wtoS, dueS] using q38
theorem t_boff (hw : Wd σ κ τ μ z w) {v : Nat} : ∃ w', ppI 7 0 36 (nI v) w = some (.inl (), w') ∧ Wd σ κ (τ) (us μ 2 4 0 v) z w' := by
  refine hw.setF7 ?_
  have h := hw.mr
  obtain ⟨q1, q2, q3, q4, q5, q6, q7, q8, q9, q10, q11, q12, q13, q14, q15, q16, q17, q18, q19, q20, q21, q22, q23, q24, q25, q26, q27, q28, q29, q30, q31, q32, q33, q34, q35, q36, q37, q38⟩ := h
  refine ⟨?_, ?_, ?_, ?_, ?_, ?_, ?_, ?_, ?_, ?_, ?_, ?_, ?_, ?_, ?_, ?_, ?_, ?_, ?_, ?_, ?_, ?_, ?_, ?_, ?_, ?_, ?_, ?_, ?_, ?_, ?_, ?_, ?_, ?_, ?_, ?_, ?_, ?_⟩
  · simpa [u3, us, fromS, wfromS, readyS, toS, wtoS, dueS] using q1
  · simpa [u3, us, fromS, wfromS, readyS, toS, wtoS, dueS] using q2
  · simpa [u3, us, fromS, wfromS, readyS, toS, wtoS, dueS] using q3
  · simpa [u3, us, fromS, wfromS, readyS, toS, wtoS, dueS] using q4
  · simpa [u3, us, fromS, wfromS, readyS, toS, wtoS, dueS] using q5
  · simpa [u3, us, fromS, wfromS, readyS, toS, wtoS, dueS] using q6
  · simpa [u3, us, fromS, wfromS, readyS, toS, wtoS, dueS] using q7
  · simpa [u3, us, fromS, wfromS, readyS, toS, wtoS, dueS] using q8
  · simpa [u3, us, fromS, wfromS, readyS, toS, wtoS, dueS] using q9
  · simpa [u3, us, fromS, wfromS, readyS, toS, wtoS, dueS] using q10
  · simpa [u3, us, fromS, wfromS, readyS, toS, wtoS, dueS] using q11
  · simpa [u3, us, fromS, wfromS, readyS, toS, wtoS, dueS] using q12
  · simpa [u3, us, fromS, wfromS, readyS, toS, wtoS, dueS] using q13
  · simpa [u3, us, fromS, wfromS, readyS, toS, wtoS, dueS] using q14
  · simpa [u3, us, fromS, wfromS, readyS, toS, wtoS, dueS] using q15
  · simpa [u3, us, fromS, wfromS, readyS, toS, wtoS, dueS] using q16
  · simpa [u3, us, fromS, wfromS, readyS, toS, wtoS, dueS] using q17
  · simpa [u3, us, fromS, wfromS, readyS, toS, wtoS, dueS] using q18
  · simpa [u3, us, fromS, wfromS, readyS, toS, wtoS, dueS] using q19
  · simpa [u3, us, fromS, wfromS, readyS, toS, wtoS, dueS] using q20
  · simpa [u3, us, fromS, wfromS, readyS, toS, wtoS, dueS] using q21
  · simpa [u3, us, fromS, wfromS, readyS, toS, wtoS, dueS] using q22
  · simpa [u3, us, fromS, wfromS, readyS, toS, wtoS, dueS] using q23
  · simpa [u3, us, fromS, wfromS, readyS, toS, wtoS, dueS] using q24
  · simpa [u3, us, fromS, wfromS, readyS, toS, wtoS, dueS] using q25
  · simpa [u3, us, fromS, wfromS, readyS, toS, wtoS, dueS] using q26
  · simpa [u3, us, fromS, wfromS, readyS, toS, wtoS, dueS] using q27
  · simpa [u3, us, fromS, wfromS, readyS, toS, wtoS, dueS] using q28
  · simpa [u3, us, fromS, wfromS, readyS, toS, wtoS, dueS] using q29
  · simpa [u3, us, fromS, wfromS, readyS, toS, wtoS, dueS] using q30
  · simpa [u3, us, fromS, wfromS, readyS, toS, wtoS, dueS] using q31
  · simpa [u3, us, fromS, wfromS, readyS, toS, wtoS, dueS] using q32
  · simpa [u3, us, fromS, wfromS, readyS, toS, wtoS, dueS] using q33
  · simpa [u3, us, fromS, wfromS, readyS, toS, wtoS, dueS] using q34
  · simpa [u3, us, fromS, wfromS, readyS, toS, wtoS, dueS] using q35
  · simpa [u3, us, fromS, wfromS, readyS, toS, wtoS, dueS] using q36
  · skip
    have q := q37
    simp only [u3, us] at *; (repeat' split) <;> first | rfl | assumption | omega | (exfalso; omega) | simp_all
  · simpa [u3, us, fromS, wfromS, readyS, toS, wtoS, dueS] using q38
theorem t_bt (hw : Wd σ κ τ μ z w) {v : Nat} : ∃ w', ppI 7 0 34 (m1 v) w = some (.inl (), w') ∧ Wd σ κ (τ) (us μ 2 2 0 v) z w' := by
  refine hw.setF7 ?_
  have h := hw.mr
  obtain ⟨q1, q2, q3, q4, q5, q6, q7, q8, q9, q10, q11, q12, q13, q14, q15, q16, q17, q18, q19, q20, q21, q22, q23, q24, q25, q26, q27, q28, q29, q30, q31, q32, q33, q34, q35, q36, q37, q38⟩ := h
  refine ⟨?_, ?_, ?_, ?_, ?_, ?_, ?_, ?_, ?_, ?_, ?_, ?_, ?_, ?_, ?_, ?_, ?_, ?_, ?_, ?_, ?_, ?_, ?_, ?_, ?_, ?_, ?_, ?_, ?_, ?_, ?_, ?_, ?_, ?_, ?_, ?_, ?_, ?_⟩
  · simpa [u3, us, fromS, wfromS, readyS, toS, wtoS, dueS] using q1
  · simpa [u3, us, fromS, wfromS, readyS, toS, wtoS, dueS] using q2
  · simpa [u3, us, fromS, wfromS, readyS, toS, wtoS, dueS] using q3
  · simpa [u3, us, fromS, wfromS, readyS, toS, wtoS, dueS] using q4
  · simpa [u3, us, fromS, wfromS, readyS, toS, wtoS, dueS] using q5
  · simpa [u3, us, fromS, wfromS, readyS, toS, wtoS, dueS] using q6
  · simpa [u3, us, fromS, wfromS, readyS, toS, wtoS, dueS] using q7
  · simpa [u3, us, fromS, wfromS, readyS, toS, wtoS, dueS] using q8
  · simpa [u3, us, fromS, wfromS, readyS, toS, wtoS, dueS] using q9
  · simpa [u3, us, fromS, wfromS, readyS, toS, wtoS, dueS] using q10
  · simpa [u3, us, fromS, wfromS, readyS, toS, wtoS, dueS] using q11
  · simpa [u3, us, fromS, wfromS, readyS, toS, wtoS, dueS] using q12
  · simpa [u3, us, fromS, wfromS, readyS, toS, wtoS, dueS] using q13
  · simpa [u3, us, fromS, wfromS, readyS, toS, wtoS, dueS] using q14
  · simpa [u3, us, fromS, wfromS, readyS, toS, wtoS, dueS] using q15
  · simpa [u3, us, fromS, wfromS, readyS, toS, wtoS, dueS] using q16
  · simpa [u3, us, fromS, wfromS, readyS, toS, wtoS, dueS] using q17
  · simpa [u3, us, fromS, wfromS, readyS, toS, wtoS, dueS] using q18
  · simpa [u3, us, fromS, wfromS, readyS, toS, wtoS, dueS] using q19
  · simpa [u3, us, fromS, wfromS, readyS, toS, wtoS, dueS] using q20
  · simpa [u3, us, fromS, wfromS, readyS, toS, wtoS, dueS] using q21
  · simpa [u3, us, fromS, wfromS, readyS, toS, wtoS, dueS] using q22
  · simpa [u3, us, fromS, wfromS, readyS, toS, wtoS, dueS] using q23
  · simpa [u3, us, fromS, wfromS, readyS, toS, wtoS, dueS] using q24
  · simpa [u3, us, fromS, wfromS, readyS, toS, wtoS, dueS] using q25
  · simpa [u3, us, fromS, wfromS, readyS, toS, wtoS, dueS] using q26
  · simpa [u3, us, fromS, wfromS, readyS, toS, wtoS, dueS] using q27
  · simpa [u3, us, fromS, wfromS, readyS, toS, wtoS, dueS] using q28
  · simpa [u3, us, fromS, wfromS, readyS, toS, wtoS, dueS] using q29
  · simpa [u3, us, fromS, wfromS, readyS, toS, wtoS, dueS] using q30
  · simpa [u3, us, fromS, wfromS, readyS, toS, wtoS, dueS] using q31
  · simpa [u3, us, fromS, wfromS, readyS, toS, wtoS, dueS] using q32
  · simpa [u3, us, fromS, wfromS, readyS, toS, wtoS, dueS] using q33
  · simpa [u3, us, fromS, wfromS, readyS, toS, wtoS, dueS] using q34
  · skip
    have q := q35
    simp only [u3, us] at *; (repeat' split) <;> first | rfl | assumption | omega | (exfalso; omega) | simp_all
  · simpa [u3, us, fromS, wfromS, readyS, toS, wtoS, dueS] using q36
  · simpa [u3, us, fromS, wfromS, readyS, toS, wtoS, dueS] using q37
  · simpa [u3, us, fromS, wfromS, readyS, toS, wtoS, dueS] using q38
theorem t_now (hw : Wd σ κ τ μ z w) {v : Nat} : ∃ w', ppI 7 0 1 (nI v) w = some (.inl (), w') ∧ Wd σ κ (us τ 0 0 0 v) (μ) z w' := by
  refine hw.setF7 ?_
  have h := hw.mr
  obtain ⟨q1, q2, q3, q4, q5, q6, q7, q8, q9, q10, q11, q12, q13, q14, q15, q16, q17, q18, q19, q20, q21, q22, q23, q24, q25, q26, q27, q28, q29, q30, q31, q32, q33, q34, q35, q36, q37, q38⟩ := h
  refine ⟨?_, ?_, ?_, ?_, ?_, ?_, ?_, ?_, ?_, ?_, ?_, ?_, ?_, ?_, ?_, ?_, ?_, ?_, ?_, ?_, ?_, ?_, ?_, ?_, ?_, ?_, ?_, ?_, ?_, ?_, ?_, ?_, ?_, ?_, ?_, ?_, ?_, ?_⟩
  · simpa [u3, us, fromS, wfromS, readyS, toS, wtoS, dueS] using q1
  · skip
    have q := q2
    simp only [u3, us] at *; (repeat' split) <;> first | rfl | assumption | omega | (exfalso; omega) | simp_all
  · simpa [u3, us, fromS, wfromS, readyS, toS, wtoS, dueS] using q3
  · simpa [u3, us, fromS, wfromS, readyS, toS, wtoS, dueS] using q4
  · simpa [u3, us, fromS, wfromS, readyS, toS, wtoS, dueS] using q5
  · simpa [u3, us, fromS, wfromS, readyS, toS, wtoS, dueS] using q6
  · simpa [u3, us, fromS, wfromS, readyS, toS, wtoS, dueS] using q7
  · simpa [u3, us, fromS, wfromS, readyS, toS, wtoS, dueS] using q8
  · simpa [u3, us, fromS, wfromS, readyS, toS, wtoS, dueS] using q9
  · simpa [u3, us, fromS, wfromS, readyS, toS, wtoS, dueS] using q10
  · simpa [u3, us, fromS, wfromS, readyS, toS, wtoS, dueS] using q11
  · simpa [u3, us, fromS, wfromS, readyS, toS, wtoS, dueS] using q12
  · simpa [u3, us, fromS, wfromS, readyS, toS, wtoS, dueS] using q13
  · simpa [u3, us, fromS, wfromS, readyS, toS, wtoS, dueS] using q14
  · simpa [u3, us, fromS, wfromS, readyS, toS, wtoS, dueS] using q15
  · simpa [u3, us, fromS, wfromS, readyS, toS, wtoS, dueS] using q16
  · simpa [u3, us, fromS, wfromS, readyS, toS, wtoS, dueS] using q17
  · simpa [u3, us, fromS, wfromS, readyS, toS, wtoS, dueS] using q18
  · simpa [u3, us, fromS, wfromS, readyS, toS, wtoS, dueS] using q19
  · simpa [u3, us, fromS, wfromS, readyS, toS, wtoS, dueS] using q20
  · simpa [u3, us, fromS, wfromS, readyS, toS, wtoS, dueS] using q21
  · simpa [u3, us, fromS, wfromS, readyS, toS, wtoS, dueS] using q22
  · simpa [u3, us, fromS, wfromS, readyS, toS, wtoS, dueS] using q23
  · simpa [u3, us, fromS, wfromS, readyS, toS, wtoS, dueS] using q24
  · simpa [u3, us, fromS, wfromS, readyS, toS, wtoS, dueS] using q25
  · simpa [u3, us, fromS, wfromS, readyS, toS, wtoS, dueS] using q26
  · simpa [u3, us, fromS, wfromS, readyS, toS, wtoS, dueS] using q27
  · simpa [u3, us, fromS, wfromS, readyS, toS, wtoS, dueS] using q28
  · simpa [u3, us, fromS, wfromS, readyS, toS, wtoS, dueS] using q29
  · simpa [u3, us, fromS, wfromS, readyS, toS, wtoS, dueS] using q30
  · simpa [u3, us, fromS, wfromS, readyS, toS, wtoS, dueS] using q31
  · simpa [u3, us, fromS, wfromS, readyS, toS, wtoS, dueS] using q32
  · simpa [u3, us, fromS, wfromS, readyS, toS, wtoS, dueS] using q33
  · simpa [u3, us, fromS, wfromS, readyS, toS, wtoS, dueS] using q34
  · simpa [u3, us, fromS, wfromS, readyS, toS, wtoS, dueS] using q35
  · simpa [u3, us, fromS, wfromS, readyS, toS, wtoS, dueS] using q36
  · simpa [u3, us, fromS, wfromS, readyS, toS, wtoS, dueS] using q37
  · simpa [u3, us, fromS, wfromS, readyS, toS, wtoS, dueS] using q38
theorem t_st (hw : Wd σ κ τ μ z w) {v : Nat} : ∃ w', ppI 7 0 2 (nI v) w = some (.inl (), w') ∧ Wd σ κ (us τ 0 1 0 v) (μ) z w' := by
  refine hw.setF7 ?_
  have h := hw.mr
  obtain ⟨q1, q2, q3, q4, q5, q6, q7, q8, q9, q10, q11, q12, q13, q14, q15, q16, q17, q18, q19, q20, q21, q22, q23, q24, q25, q26, q27, q28, q29, q30, q31, q32, q33, q34, q35, q36, q37, q38⟩ := h
  refine ⟨?_, ?_, ?_, ?_, ?_, ?_, ?_, ?_, ?_, ?_, ?_, ?_, ?_, ?_, ?_, ?_, ?_, ?_, ?_, ?_, ?_, ?_, ?_, ?_, ?_, ?_, ?_, ?_, ?_, ?_, ?_, ?_, ?_, ?_, ?_, ?_, ?_, ?_⟩
  · simpa [u3, us, fromS, wfromS, readyS, toS, wtoS, dueS] using q1
  · simpa [u3, us, fromS, wfromS, readyS, toS, wtoS, dueS] using q2
  · skip
    have q := q3
    simp only [u3, us] at *; (repeat' split) <;> first | rfl | assumption | omega | (exfalso; omega) | simp_all
  · simpa [u3, us, fromS, wfromS, readyS, toS, wtoS, dueS] using q4
  · simpa [u3, us, fromS, wfromS, readyS, toS, wtoS, dueS] using q5
  · simpa [u3, us, fromS, wfromS, readyS, toS, wtoS, dueS] using q6
  · simpa [u3, us, fromS, wfromS, readyS, toS, wtoS, dueS] using q7
  · simpa [u3, us, fromS, wfromS, readyS, toS, wtoS, dueS] using q8
  · simpa [u3, us, fromS, wfromS, readyS, toS, wtoS, dueS] using q9
  · simpa [u3, us, fromS, wfromS, readyS, toS, wtoS, dueS] using q10
  · simpa [u3, us, fromS, wfromS, readyS, toS, wtoS, dueS] using q11
  · simpa [u3, us, fromS, wfromS, readyS, toS, wtoS, dueS] using q12
  · simpa [u3, us, fromS, wfromS, readyS, toS, wtoS, dueS] using q13
  · simpa [u3, us, fromS, wfromS, readyS, toS, wtoS, dueS] using q14
  · simpa [u3, us, fromS, wfromS, readyS, toS, wtoS, dueS] using q15
  · simpa [u3, us, fromS, wfromS, readyS, toS, wtoS, dueS] using q16
  · simpa [u3, us, fromS, wfromS, readyS, toS, wtoS, dueS] using q17
  · simpa [u3, us, fromS, wfromS, readyS, toS, wtoS, dueS] using q18
  · simpa [u3, us, fromS, wfromS, readyS, toS, wtoS, dueS] using q19
  · simpa [u3, us, fromS, wfromS, readyS, toS, wtoS, dueS] using q20
  · simpa [u3, us, fromS, wfromS, readyS, toS, wtoS, dueS] using q21
  · simpa [u3, us, fromS, wfromS, readyS, toS, wtoS, dueS] using q22
  · simpa [u3, us, fromS, wfromS, readyS, toS, wtoS, dueS] using q23
  · simpa [u3, us, fromS, wfromS, readyS, toS, wtoS, dueS] using q24
  · simpa [u3, us, fromS, wfromS, readyS, toS, wtoS, dueS] using q25
  · simpa [u3, us, fromS, wfromS, readyS, toS, wtoS, dueS] using q26
  · simpa [u3, us, fromS, wfromS, readyS, toS, wtoS, dueS] using q27
  · simpa [u3, us, fromS, wfromS, readyS, toS, wtoS, dueS] using q28
  · simpa [u3, us, fromS, wfromS, readyS, toS, wtoS, dueS] using q29
  · simpa [u3, us, fromS, wfromS, readyS, toS, wtoS, dueS] using q30
  · simpa [u3, us, fromS, wfromS, readyS, toS, wtoS, dueS] using q31
  · simpa [u3, us, fromS, wfromS, readyS, toS, wtoS, dueS] using q32
  · simpa [u3, us, fromS, wfromS, readyS, toS, wtoS, dueS] using q33
  · simpa [u3, us, fromS, wfromS, readyS, toS, wtoS, dueS] using q34
  · simpa [u3, us, fromS, wfromS, readyS, toS, wtoS, dueS] using q35
  · simpa [u3, us, fromS, wfromS, readyS, toS, wtoS, dueS] using q36
  · simpa [u3, us, fromS, wfromS, readyS, toS, wtoS, dueS] using q37
  · simpa [u3, us, fromS, wfromS, readyS, toS, wtoS, dueS] using q38
theorem t_tr (hw : Wd σ κ τ μ z w) {v : Nat} : ∃ w', ppI 7 0 3 (nI v) w = some (.inl (), w') ∧ Wd σ κ (us τ 0 2 0 v) (μ) z w' := by
  refine hw.setF7 ?_
  have h := hw.mr
  obtain ⟨q1, q2, q3, q4, q5, q6, q7, q8, q9, q10, q11, q12, q13, q14, q15, q16, q17, q18, q19, q20, q21, q22, q23, q24, q25, q26, q27, q28, q29, q30, q31, q32, q33, q34, q35, q36, q37, q38⟩ := h
  refine ⟨?_, ?_, ?_, ?_, ?_, ?_, ?_, ?_, ?_, ?_, ?_, ?_, ?_, ?_, ?_, ?_, ?_, ?_, ?_, ?_, ?_, ?_, ?_, ?_, ?_, ?_, ?_, ?_, ?_, ?_, ?_, ?_, ?_, ?_, ?_, ?_, ?_, ?_⟩
  · simpa [u3, us, fromS, wfromS, readyS, toS, wtoS, dueS] using q1
  · simpa [u3, us, fromS, wfromS, readyS, toS, wtoS, dueS] using q2
  · simpa [u3, us, fromS, wfromS, readyS, toS, wtoS, dueS] using q3
  · skip
    have q := q4
    simp only [u3, us] at *; (repeat' split) <;> first | rfl | assumption | omega | (exfalso; omega) | simp_all
  · simpa [u3, us, fromS, wfromS, readyS, toS, wtoS, dueS] using q5
  · simpa [u3, us, fromS, wfromS, readyS, toS, wtoS, dueS] using q6
  · simpa [u3, us, fromS, wfromS, readyS, toS, wtoS, dueS] using q7
  · simpa [u3, us, fromS, wfromS, readyS, toS, wtoS, dueS] using q8
  · simpa [u3, us, fromS, wfromS, readyS, toS, wtoS, dueS] using q9
  · simpa [u3, us, fromS, wfromS, readyS, toS, wtoS, dueS] using q10
  · simpa [u3, us, fromS, wfromS, readyS, toS, wtoS, dueS] using q11
  · simpa [u3, us, fromS, wfromS, readyS, toS, wtoS, dueS] using q12
  · simpa [u3, us, fromS, wfromS, readyS, toS, wtoS, dueS] using q13
  · simpa [u3, us, fromS, wfromS, readyS, toS, wtoS, dueS] using q14
  · simpa [u3, us, fromS, wfromS, readyS, toS, wtoS, dueS] using q15
  · simpa [u3, us, fromS, wfromS, readyS, toS, wtoS, dueS] using q16
  · simpa [u3, us, fromS, wfromS, readyS, toS, wtoS, dueS] using q17
  · simpa [u3, us, fromS, wfromS, readyS, toS, wtoS, dueS] using q18
  · simpa [u3, us, fromS, wfromS, readyS, toS, wtoS, dueS] using q19
  · simpa [u3, us, fromS, wfromS, readyS, toS, wtoS, dueS] using q20
  · simpa [u3, us, fromS, wfromS, readyS, toS, wtoS, dueS] using q21
  · simpa [u3, us, fromS, wfromS, readyS, toS, wtoS, dueS] using q22
  · simpa [u3, us, fromS, wfromS, readyS, toS, wtoS, dueS] using q23
  · simpa [u3, us, fromS, wfromS, readyS, toS, wtoS, dueS] using q24
  · simpa [u3, us, fromS, wfromS, readyS, toS, wtoS, dueS] using q25
  · simpa [u3, us, fromS, wfromS, readyS, toS, wtoS, dueS] using q26
  · simpa [u3, us, fromS, wfromS, readyS, toS, wtoS, dueS] using q27
  · simpa [u3, us, fromS, wfromS, readyS, toS, wtoS, dueS] using q28
  · simpa [u3, us, fromS, wfromS, readyS, toS, wtoS, dueS] using q29
  · simpa [u3, us, fromS, wfromS, readyS, toS, wtoS, dueS] using q30
  · simpa [u3, us, fromS, wfromS, readyS, toS, wtoS, dueS] using q31
  · simpa [u3, us, fromS, wfromS, readyS, toS, wtoS, dueS] using q32
  · simpa [u3, us, fromS, wfromS, readyS, toS, wtoS, dueS] using q33
  · simpa [u3, us, fromS, wfromS, readyS, toS, wtoS, dueS] using q34
  · simpa [u3, us, fromS, wfromS, readyS, toS, wtoS, dueS] using q35
  · simpa [u3, us, fromS, wfromS, readyS, toS, wtoS, dueS] using q36
  · simpa [u3, us, fromS, wfromS, readyS, toS, wtoS, dueS] using q37
  · simpa [u3, us, fromS, wfromS, readyS, toS, wtoS, dueS] using q38
theorem t_bx (hw : Wd σ κ τ μ z w) {v : Nat} : ∃ w', ppI 7 0 4 (nI v) w = some (.inl (), w') ∧ Wd σ κ (us τ 0 3 0 v) (μ) z w' := by
  refine hw.setF7 ?_
  have h := hw.mr
  obtain ⟨q1, q2, q3, q4, q5, q6, q7, q8, q9, q10, q11, q12, q13, q14, q15, q16, q17, q18, q19, q20, q21, q22, q23, q24, q25, q26, q27, q28, q29, q30, q31, q32, q33, q34, q35, q36, q37, q38⟩ := h
  refine ⟨?_, ?_, ?_, ?_, ?_, ?_, ?_, ?_, ?_, ?_, ?_, ?_, ?_, ?_, ?_, ?_, ?_, ?_, ?_, ?_, ?_, ?_, ?_, ?_, ?_, ?_, ?_, ?_, ?_, ?_, ?_, ?_, ?_, ?_, ?_, ?_, ?_, ?_⟩
  · simpa [u3, us, fromS, wfromS, readyS, toS, wtoS, dueS] using q1
  · simpa [u3, us, fromS, wfromS, readyS, toS, wtoS, dueS] using q2
  · simpa [u3, us, fromS, wfromS, readyS, toS, wtoS, dueS] using q3
  · simpa [u3, us, fromS, wfromS, readyS, toS, wtoS, dueS] using q4
  · skip
    have q := q5
    simp only [u3, us] at *; (repeat' split) <;> first | rfl | assumption | omega | (exfalso; omega) | simp_all
  · simpa [u3, us, fromS, wfromS, readyS, toS, wtoS, dueS] using q6
  · simpa [u3, us, fromS, wfromS, readyS, toS, wtoS, dueS] using q7
  · simpa [u3, us, fromS, wfromS, readyS, toS, wtoS, dueS] using q8
  · simpa [u3, us, fromS, wfromS, readyS, toS, wtoS, dueS] using q9
  · simpa [u3, us, fromS, wfromS, readyS, toS, wtoS, dueS] using q10
  · simpa [u3, us, fromS, wfromS, readyS, toS, wtoS, dueS] using q11
  · simpa [u3, us, fromS, wfromS, readyS, toS, wtoS, dueS] using q12
  · simpa [u3, us, fromS, wfromS, readyS, toS, wtoS, dueS] using q13
  · simpa [u3, us, fromS, wfromS, readyS, toS, wtoS, dueS] using q14
  · simpa [u3, us, fromS, wfromS, readyS, toS, wtoS, dueS] using q15
  · simpa [u3, us, fromS, wfromS, readyS, toS, wtoS, dueS] using q16
  · simpa [u3, us, fromS, wfromS, readyS, toS, wtoS, dueS] using q17
  · simpa [u3, us, fromS, wfromS, readyS, toS, wtoS, dueS] using q18
  · simpa [u3, us, fromS, wfromS, readyS, toS, wtoS, dueS] using q19
  · simpa [u3, us, fromS, wfromS, readyS, toS, wtoS, dueS] using q20
  · simpa [u3, us, fromS, wfromS, readyS, toS, wtoS, dueS] using q21
  · simpa [u3, us, fromS, wfromS, readyS, toS, wtoS, dueS] using q22
  · simpa [u3, us, fromS, wfromS, readyS, toS, wtoS, dueS] using q23
  · simpa [u3, us, fromS, wfromS, readyS, toS, wtoS, dueS] using q24
  · simpa [u3, us, fromS, wfromS, readyS, toS, wtoS, dueS] using q25
  · simpa [u3, us, fromS, wfromS, readyS, toS, wtoS, dueS] using q26
  · simpa [u3, us, fromS, wfromS, readyS, toS, wtoS, dueS] using q27
  · simpa [u3, us, fromS, wfromS, readyS, toS, wtoS, dueS] using q28
  · simpa [u3, us, fromS, wfromS, readyS, toS, wtoS, dueS] using q29
  · simpa [u3, us, fromS, wfromS, readyS, toS, wtoS, dueS] using q30
  · simpa [u3, us, fromS, wfromS, readyS, toS, wtoS, dueS] using q31
  · simpa [u3, us, fromS, wfromS, readyS, toS, wtoS, dueS] using q32
  · simpa [u3, us, fromS, wfromS, readyS, toS, wtoS, dueS] using q33
  · simpa [u3, us, fromS, wfromS, readyS, toS, wtoS, dueS] using q34
  · simpa [u3, us, fromS, wfromS, readyS, toS, wtoS, dueS] using q35
  · simpa [u3, us, fromS, wfromS, readyS, toS, wtoS, dueS] using q36
  · simpa [u3, us, fromS, wfromS, readyS, toS, wtoS, dueS] using q37
  · simpa [u3, us, fromS, wfromS, readyS, toS, wtoS, dueS] using q38
theorem t_ca (hw : Wd σ κ τ μ z w) {v : Nat} : ∃ w', ppI 7 0 5 (nI v) w = some (.inl (), w') ∧ Wd σ κ (us τ 0 4 0 v) (μ) z w' := by
  refine hw.setF7 ?_
  have h := hw.mr
  obtain ⟨q1, q2, q3, q4, q5, q6, q7, q8, q9, q10, q11, q12, q13, q14, q15, q16, q17, q18, q19, q20, q21, q22, q23, q24, q25, q26, q27, q28, q29, q30, q31, q32, q33, q34, q35, q36, q37, q38⟩ := h
  refine ⟨?_, ?_, ?_, ?_, ?_, ?_, ?_, ?_, ?_, ?_, ?_, ?_, ?_, ?_, ?_, ?_, ?_, ?_, ?_, ?_, ?_, ?_, ?_, ?_, ?_, ?_, ?_, ?_, ?_, ?_, ?_, ?_, ?_, ?_, ?_, ?_, ?_, ?_⟩
  · simpa [u3, us, fromS, wfromS, readyS, toS, wtoS, dueS] using q1
  · simpa [u3, us, fromS, wfromS, readyS, toS, wtoS, dueS] using q2
  · simpa [u3, us, fromS, wfromS, readyS, toS, wtoS, dueS] using q3
  · simpa [u3, us, fromS, wfromS, readyS, toS, wtoS, dueS] using q4
  · simpa [u3, us, fromS, wfromS, readyS, toS, wtoS, dueS] using q5
  · skip
    have q := q6
    simp only [u3, us] at *; (repeat' split) <;> first | rfl | assumption | omega | (exfalso; omega) | simp_all
  · simpa [u3, us, fromS, wfromS, readyS, toS, wtoS, dueS] using q7
  · simpa [u3, us, fromS, wfromS, readyS, toS, wtoS, dueS] using q8
  · simpa [u3, us, fromS, wfromS, readyS, toS, wtoS, dueS] using q9
  · simpa [u3, us, fromS, wfromS, readyS, toS, wtoS, dueS] using q10
  · simpa [u3, us, fromS, wfromS, readyS, toS, wtoS, dueS] using q11
  · simpa [u3, us, fromS, wfromS, readyS, toS, wtoS, dueS] using q12
  · simpa [u3, us, fromS, wfromS, readyS, toS, wtoS, dueS] using q13
  · simpa [u3, us, fromS, wfromS, readyS, toS, wtoS, dueS] using q14
  · simpa [u3, us, fromS, wfromS, readyS, toS, wtoS, dueS] using q15
  · simpa [u3, us, fromS, wfromS, readyS, toS, wtoS, dueS] using q16
  · simpa [u3, us, fromS, wfromS, readyS, toS, wtoS, dueS] using q17
  · simpa [u3, us, fromS, wfromS, readyS, toS, wtoS, dueS] using q18
  · simpa [u3, us, fromS, wfromS, readyS, toS, wtoS, dueS] using q19
  · simpa [u3, us, fromS, wfromS, readyS, toS, wtoS, dueS] using q20
  · simpa [u3, us, fromS, wfromS, readyS, toS, wtoS, dueS] using q21
  · simpa [u3, us, fromS, wfromS, readyS, toS, wtoS, dueS] using q22
  · simpa [u3, us, fromS, wfromS, readyS, toS, wtoS, dueS] using q23
  · simpa [u3, us, fromS, wfromS, readyS, toS, wtoS, dueS] using q24
  · simpa [u3, us, fromS, wfromS, readyS, toS, wtoS, dueS] using q25
  · simpa [u3, us, fromS, wfromS, readyS, toS, wtoS, dueS] using q26
  · simpa [u3, us, fromS, wfromS, readyS, toS, wtoS, dueS] using q27
  · simpa [u3, us, fromS, wfromS, readyS, toS, wtoS, dueS] using q28
  · simpa [u3, us, fromS, wfromS, readyS, toS, wtoS, dueS] using q29
  · simpa [u3, us, fromS, wfromS, readyS, toS, wtoS, dueS] using q30
  · simpa [u3, us, fromS, wfromS, readyS, toS, wtoS, dueS] using q31
  · simpa [u3, us, fromS, wfromS, readyS, toS, wtoS, dueS] using q32
  · simpa [u3, us, fromS, wfromS, readyS, toS, wtoS, dueS] using q33
  · simpa [u3, us, fromS, wfromS, readyS, toS, wtoS, dueS] using q34
  · simpa [u3, us, fromS, wfromS, readyS, toS, wtoS, dueS] using q35
  · simpa [u3, us, fromS, wfromS, readyS, toS, wtoS, dueS] using q36
  · simpa [u3, us, fromS, wfromS, readyS, toS, wtoS, dueS] using q37
  · simpa [u3, us, fromS, wfromS, readyS, toS, wtoS, dueS] using q38
theorem t_sort (hw : Wd σ κ τ μ z w) {i v : Nat} (hi : i < 10) : ∃ w', pst 9 6 (nI i) (nI v) w = some (.inl (), w') ∧ Wd σ κ (us τ 1 i 0 v) (μ) z w' := by
  refine hw.setA9 rfl (show i < 10 by omega) ?_
  have h := hw.mr
  obtain ⟨q1, q2, q3, q4, q5, q6, q7, q8, q9, q10, q11, q12, q13, q14, q15, q16, q17, q18, q19, q20, q21, q22, q23, q24, q25, q26, q27, q28, q29, q30, q31, q32, q33, q34, q35, q36, q37, q38⟩ := h
  refine ⟨?_, ?_, ?_, ?_, ?_, ?_, ?_, ?_, ?_, ?_, ?_, ?_, ?_, ?_, ?_, ?_, ?_, ?_, ?_, ?_, ?_, ?_, ?_, ?_, ?_, ?_, ?_, ?_, ?_, ?_, ?_, ?_, ?_, ?_, ?_, ?_, ?_, ?_⟩
  · simpa [u3, us, fromS, wfromS, readyS, toS, wtoS, dueS] using q1
  · simpa [u3, us, fromS, wfromS, readyS, toS, wtoS, dueS] using q2
  · simpa [u3, us, fromS, wfromS, readyS, toS, wtoS, dueS] using q3
  · simpa [u3, us, fromS, wfromS, readyS, toS, wtoS, dueS] using q4
  · simpa [u3, us, fromS, wfromS, readyS, toS, wtoS, dueS] using q5
  · simpa [u3, us, fromS, wfromS, readyS, toS, wtoS, dueS] using q6
  · intro i
    have q := q7 i
    simp only [u3, us] at *; (repeat' split) <;> first | rfl | assumption | omega | (exfalso; omega) | simp_all
  · simpa [u3, us, fromS, wfromS, readyS, toS, wtoS, dueS] using q8
  · simpa [u3, us, fromS, wfromS, readyS, toS, wtoS, dueS] using q9
  · simpa [u3, us, fromS, wfromS, readyS, toS, wtoS, dueS] using q10
  · simpa [u3, us, fromS, wfromS, readyS, toS, wtoS, dueS] using q11
  · simpa [u3, us, fromS, wfromS, readyS, toS, wtoS, dueS] using q12
  · simpa [u3, us, fromS, wfromS, readyS, toS, wtoS, dueS] using q13
  · simpa [u3, us, fromS, wfromS, readyS, toS, wtoS, dueS] using q14
  · simpa [u3, us, fromS, wfromS, readyS, toS, wtoS, dueS] using q15
  · simpa [u3, us, fromS, wfromS, readyS, toS, wtoS, dueS] using q16
  · simpa [u3, us, fromS, wfromS, readyS, toS, wtoS, dueS] using q17
  · simpa [u3, us, fromS, wfromS, readyS, toS, wtoS, dueS] using q18
  · simpa [u3, us, fromS, wfromS, readyS, toS, wtoS, dueS] using q19
  · simpa [u3, us, fromS, wfromS, readyS, toS, wtoS, dueS] using q20
  · simpa [u3, us, fromS, wfromS, readyS, toS, wtoS, dueS] using q21
  · simpa [u3, us, fromS, wfromS, readyS, toS, wtoS, dueS] using q22
  · simpa [u3, us, fromS, wfromS, readyS, toS, wtoS, dueS] using q23
  · simpa [u3, us, fromS, wfromS, readyS, toS, wtoS, dueS] using q24
  · simpa [u3, us, fromS, wfromS, readyS, toS, wtoS, dueS] using q25
  · simpa [u3, us, fromS, wfromS, readyS, toS, wtoS, dueS] using q26
  · simpa [u3, us, fromS, wfromS, readyS, toS, wtoS, dueS] using q27
  · simpa [u3, us, fromS, wfromS, readyS, toS, wtoS, dueS] using q28
  · simpa [u3, us, fromS, wfromS, readyS, toS, wtoS, dueS] using q29
  · simpa [u3, us, fromS, wfromS, readyS, toS, wtoS, dueS] using q30
  · simpa [u3, us, fromS, wfromS, readyS, toS, wtoS, dueS] using q31
  · simpa [u3, us, fromS, wfromS, readyS, toS, wtoS, dueS] using q32
  · simpa [u3, us, fromS, wfromS, readyS, toS, wtoS, dueS] using q33
  · simpa [u3, us, fromS, wfromS, readyS, toS, wtoS, dueS] using q34
  · simpa [u3, us, fromS, wfromS, readyS, toS, wtoS, dueS] using q35
  · simpa [u3, us, fromS, wfromS, readyS, toS, wtoS, dueS] using q36
  · simpa [u3, us, fromS, wfromS, readyS, toS, wtoS, dueS] using q37
  · simpa [u3, us, fromS, wfromS, readyS, toS, wtoS, dueS] using q38
theorem t_room (hw : Wd σ κ τ μ z w) {i v : Nat} (hi : i < 16) : ∃ w', pst 9 7 (nI i) (nI v) w = some (.inl (), w') ∧ Wd σ κ (us τ 2 i 0 v) (μ) z w' := by
  refine hw.setA9 rfl (show i < 16 by omega) ?_
  have h := hw.mr
  obtain ⟨q1, q2, q3, q4, q5, q6, q7, q8, q9, q10, q11, q12, q13, q14, q15, q16, q17, q18, q19, q20, q21, q22, q23, q24, q25, q26, q27, q28, q29, q30, q31, q32, q33, q34, q35, q36, q37, q38⟩ := h
  refine ⟨?_, ?_, ?_, ?_, ?_, ?_, ?_, ?_, ?_, ?_, ?_, ?_, ?_, ?_, ?_, ?_, ?_, ?_, ?_, ?_, ?_, ?_, ?_, ?_, ?_, ?_, ?_, ?_, ?_, ?_, ?_, ?_, ?_, ?_, ?_, ?_, ?_, ?_⟩
  · simpa [u3, us, fromS, wfromS, readyS, toS, wtoS, dueS] using q1
  · simpa [u3, us, fromS, wfromS, readyS, toS, wtoS, dueS] using q2
  · simpa [u3, us, fromS, wfromS, readyS, toS, wtoS, dueS] using q3
  · simpa [u3, us, fromS, wfromS, readyS, toS, wtoS, dueS] using q4
  · simpa [u3, us, fromS, wfromS, readyS, toS, wtoS, dueS] using q5
  · simpa [u3, us, fromS, wfromS, readyS, toS, wtoS, dueS] using q6
  · simpa [u3, us, fromS, wfromS, readyS, toS, wtoS, dueS] using q7
  · intro t
    have q := q8 t
    simp only [u3, us] at *; (repeat' split) <;> first | rfl | assumption | omega | (exfalso; omega) | simp_all
  · simpa [u3, us, fromS, wfromS, readyS, toS, wtoS, dueS] using q9
  · simpa [u3, us, fromS, wfromS, readyS, toS, wtoS, dueS] using q10
  · simpa [u3, us, fromS, wfromS, readyS, toS, wtoS, dueS] using q11
  · simpa [u3, us, fromS, wfromS, readyS, toS, wtoS, dueS] using q12
  · simpa [u3, us, fromS, wfromS, readyS, toS, wtoS, dueS] using q13
  · simpa [u3, us, fromS, wfromS, readyS, toS, wtoS, dueS] using q14
  · simpa [u3, us, fromS, wfromS, readyS, toS, wtoS, dueS] using q15
  · simpa [u3, us, fromS, wfromS, readyS, toS, wtoS, dueS] using q16
  · simpa [u3, us, fromS, wfromS, readyS, toS, wtoS, dueS] using q17
  · simpa [u3, us, fromS, wfromS, readyS, toS, wtoS, dueS] using q18
  · simpa [u3, us, fromS, wfromS, readyS, toS, wtoS, dueS] using q19
  · simpa [u3, us, fromS, wfromS, readyS, toS, wtoS, dueS] using q20
  · simpa [u3, us, fromS, wfromS, readyS, toS, wtoS, dueS] using q21
  · simpa [u3, us, fromS, wfromS, readyS, toS, wtoS, dueS] using q22
  · simpa [u3, us, fromS, wfromS, readyS, toS, wtoS, dueS] using q23
  · simpa [u3, us, fromS, wfromS, readyS, toS, wtoS, dueS] using q24
  · simpa [u3, us, fromS, wfromS, readyS, toS, wtoS, dueS] using q25
  · simpa [u3, us, fromS, wfromS, readyS, toS, wtoS, dueS] using q26
  · simpa [u3, us, fromS, wfromS, readyS, toS, wtoS, dueS] using q27
  · simpa [u3, us, fromS, wfromS, readyS, toS, wtoS, dueS] using q28
  · simpa [u3, us, fromS, wfromS, readyS, toS, wtoS, dueS] using q29
  · simpa [u3, us, fromS, wfromS, readyS, toS, wtoS, dueS] using q30
  · simpa [u3, us, fromS, wfromS, readyS, toS, wtoS, dueS] using q31
  · simpa [u3, us, fromS, wfromS, readyS, toS, wtoS, dueS] using q32
  · simpa [u3, us, fromS, wfromS, readyS, toS, wtoS, dueS] using q33
  · simpa [u3, us, fromS, wfromS, readyS, toS, wtoS, dueS] using q34
  · simpa [u3, us, fromS, wfromS, readyS, toS, wtoS, dueS] using q35
  · simpa [u3, us, fromS, wfromS, readyS, toS, wtoS, dueS] using q36
  · simpa [u3, us, fromS, wfromS, readyS, toS, wtoS, dueS] using q37
  · simpa [u3, us, fromS, wfromS, readyS, toS, wtoS, dueS] using q38
theorem t_stops (hw : Wd σ κ τ μ z w) {i v : Nat} (hi : i < 16) : ∃ w', pst 9 8 (nI i) (nI v) w = some (.inl (), w') ∧ Wd σ κ (us τ 3 i 0 v) (μ) z w' := by
  refine hw.setA9 rfl (show i < 16 by omega) ?_
  have h := hw.mr
  obtain ⟨q1, q2, q3, q4, q5, q6, q7, q8, q9, q10, q11, q12, q13, q14, q15, q16, q17, q18, q19, q20, q21, q22, q23, q24, q25, q26, q27, q28, q29, q30, q31, q32, q33, q34, q35, q36, q37, q38⟩ := h
  refine ⟨?_, ?_, ?_, ?_, ?_, ?_, ?_, ?_, ?_, ?_, ?_, ?_, ?_, ?_, ?_, ?_, ?_, ?_, ?_, ?_, ?_, ?_, ?_, ?_, ?_, ?_, ?_, ?_, ?_, ?_, ?_, ?_, ?_, ?_, ?_, ?_, ?_, ?_⟩
  · simpa [u3, us, fromS, wfromS, readyS, toS, wtoS, dueS] using q1
  · simpa [u3, us, fromS, wfromS, readyS, toS, wtoS, dueS] using q2
  · simpa [u3, us, fromS, wfromS, readyS, toS, wtoS, dueS] using q3
  · simpa [u3, us, fromS, wfromS, readyS, toS, wtoS, dueS] using q4
  · simpa [u3, us, fromS, wfromS, readyS, toS, wtoS, dueS] using q5
  · simpa [u3, us, fromS, wfromS, readyS, toS, wtoS, dueS] using q6
  · simpa [u3, us, fromS, wfromS, readyS, toS, wtoS, dueS] using q7
  · simpa [u3, us, fromS, wfromS, readyS, toS, wtoS, dueS] using q8
  · intro t
    have q := q9 t
    simp only [u3, us] at *; (repeat' split) <;> first | rfl | assumption | omega | (exfalso; omega) | simp_all
  · simpa [u3, us, fromS, wfromS, readyS, toS, wtoS, dueS] using q10
  · simpa [u3, us, fromS, wfromS, readyS, toS, wtoS, dueS] using q11
  · simpa [u3, us, fromS, wfromS, readyS, toS, wtoS, dueS] using q12
  · simpa [u3, us, fromS, wfromS, readyS, toS, wtoS, dueS] using q13
  · simpa [u3, us, fromS, wfromS, readyS, toS, wtoS, dueS] using q14
  · simpa [u3, us, fromS, wfromS, readyS, toS, wtoS, dueS] using q15
  · simpa [u3, us, fromS, wfromS, readyS, toS, wtoS, dueS] using q16
  · simpa [u3, us, fromS, wfromS, readyS, toS, wtoS, dueS] using q17
  · simpa [u3, us, fromS, wfromS, readyS, toS, wtoS, dueS] using q18
  · simpa [u3, us, fromS, wfromS, readyS, toS, wtoS, dueS] using q19
  · simpa [u3, us, fromS, wfromS, readyS, toS, wtoS, dueS] using q20
  · simpa [u3, us, fromS, wfromS, readyS, toS, wtoS, dueS] using q21
  · simpa [u3, us, fromS, wfromS, readyS, toS, wtoS, dueS] using q22
  · simpa [u3, us, fromS, wfromS, readyS, toS, wtoS, dueS] using q23
  · simpa [u3, us, fromS, wfromS, readyS, toS, wtoS, dueS] using q24
  · simpa [u3, us, fromS, wfromS, readyS, toS, wtoS, dueS] using q25
  · simpa [u3, us, fromS, wfromS, readyS, toS, wtoS, dueS] using q26
  · simpa [u3, us, fromS, wfromS, readyS, toS, wtoS, dueS] using q27
  · simpa [u3, us, fromS, wfromS, readyS, toS, wtoS, dueS] using q28
  · simpa [u3, us, fromS, wfromS, readyS, toS, wtoS, dueS] using q29
  · simpa [u3, us, fromS, wfromS, readyS, toS, wtoS, dueS] using q30
  · simpa [u3, us, fromS, wfromS, readyS, toS, wtoS, dueS] using q31
  · simpa [u3, us, fromS, wfromS, readyS, toS, wtoS, dueS] using q32
  · simpa [u3, us, fromS, wfromS, readyS, toS, wtoS, dueS] using q33
  · simpa [u3, us, fromS, wfromS, readyS, toS, wtoS, dueS] using q34
  · simpa [u3, us, fromS, wfromS, readyS, toS, wtoS, dueS] using q35
  · simpa [u3, us, fromS, wfromS, readyS, toS, wtoS, dueS] using q36
  · simpa [u3, us, fromS, wfromS, readyS, toS, wtoS, dueS] using q37
  · simpa [u3, us, fromS, wfromS, readyS, toS, wtoS, dueS] using q38
theorem t_days (hw : Wd σ κ τ μ z w) {i v : Nat} (hi : i < 40) : ∃ w', pst 9 12 (nI i) (nI v) w = some (.inl (), w') ∧ Wd σ κ (us τ 11 i 0 v) (μ) z w' := by
  refine hw.setA9 rfl (show i < 40 by omega) ?_
  have h := hw.mr
  obtain ⟨q1, q2, q3, q4, q5, q6, q7, q8, q9, q10, q11, q12, q13, q14, q15, q16, q17, q18, q19, q20, q21, q22, q23, q24, q25, q26, q27, q28, q29, q30, q31, q32, q33, q34, q35, q36, q37, q38⟩ := h
  refine ⟨?_, ?_, ?_, ?_, ?_, ?_, ?_, ?_, ?_, ?_, ?_, ?_, ?_, ?_, ?_, ?_, ?_, ?_, ?_, ?_, ?_, ?_, ?_, ?_, ?_, ?_, ?_, ?_, ?_, ?_, ?_, ?_, ?_, ?_, ?_, ?_, ?_, ?_⟩
  · simpa [u3, us, fromS, wfromS, readyS, toS, wtoS, dueS] using q1
  · simpa [u3, us, fromS, wfromS, readyS, toS, wtoS, dueS] using q2
  · simpa [u3, us, fromS, wfromS, readyS, toS, wtoS, dueS] using q3
  · simpa [u3, us, fromS, wfromS, readyS, toS, wtoS, dueS] using q4
  · simpa [u3, us, fromS, wfromS, readyS, toS, wtoS, dueS] using q5
  · simpa [u3, us, fromS, wfromS, readyS, toS, wtoS, dueS] using q6
  · simpa [u3, us, fromS, wfromS, readyS, toS, wtoS, dueS] using q7
  · simpa [u3, us, fromS, wfromS, readyS, toS, wtoS, dueS] using q8
  · simpa [u3, us, fromS, wfromS, readyS, toS, wtoS, dueS] using q9
  · simpa [u3, us, fromS, wfromS, readyS, toS, wtoS, dueS] using q10
  · simpa [u3, us, fromS, wfromS, readyS, toS, wtoS, dueS] using q11
  · simpa [u3, us, fromS, wfromS, readyS, toS, wtoS, dueS] using q12
  · intro i
    have q := q13 i
    simp only [u3, us] at *; (repeat' split) <;> first | rfl | assumption | omega | (exfalso; omega) | simp_all
  · simpa [u3, us, fromS, wfromS, readyS, toS, wtoS, dueS] using q14
  · simpa [u3, us, fromS, wfromS, readyS, toS, wtoS, dueS] using q15
  · simpa [u3, us, fromS, wfromS, readyS, toS, wtoS, dueS] using q16
  · simpa [u3, us, fromS, wfromS, readyS, toS, wtoS, dueS] using q17
  · simpa [u3, us, fromS, wfromS, readyS, toS, wtoS, dueS] using q18
  · simpa [u3, us, fromS, wfromS, readyS, toS, wtoS, dueS] using q19
  · simpa [u3, us, fromS, wfromS, readyS, toS, wtoS, dueS] using q20
  · simpa [u3, us, fromS, wfromS, readyS, toS, wtoS, dueS] using q21
  · simpa [u3, us, fromS, wfromS, readyS, toS, wtoS, dueS] using q22
  · simpa [u3, us, fromS, wfromS, readyS, toS, wtoS, dueS] using q23
  · simpa [u3, us, fromS, wfromS, readyS, toS, wtoS, dueS] using q24
  · simpa [u3, us, fromS, wfromS, readyS, toS, wtoS, dueS] using q25
  · simpa [u3, us, fromS, wfromS, readyS, toS, wtoS, dueS] using q26
  · simpa [u3, us, fromS, wfromS, readyS, toS, wtoS, dueS] using q27
  · simpa [u3, us, fromS, wfromS, readyS, toS, wtoS, dueS] using q28
  · simpa [u3, us, fromS, wfromS, readyS, toS, wtoS, dueS] using q29
  · simpa [u3, us, fromS, wfromS, readyS, toS, wtoS, dueS] using q30
  · simpa [u3, us, fromS, wfromS, readyS, toS, wtoS, dueS] using q31
  · simpa [u3, us, fromS, wfromS, readyS, toS, wtoS, dueS] using q32
  · simpa [u3, us, fromS, wfromS, readyS, toS, wtoS, dueS] using q33
  · simpa [u3, us, fromS, wfromS, readyS, toS, wtoS, dueS] using q34
  · simpa [u3, us, fromS, wfromS, readyS, toS, wtoS, dueS] using q35
  · simpa [u3, us, fromS, wfromS, readyS, toS, wtoS, dueS] using q36
  · simpa [u3, us, fromS, wfromS, readyS, toS, wtoS, dueS] using q37
  · simpa [u3, us, fromS, wfromS, readyS, toS, wtoS, dueS] using q38
theorem t_canc (hw : Wd σ κ τ μ z w) {i v : Nat} (hi : i < 16) : ∃ w', pst 9 13 (nI i) (nI v) w = some (.inl (), w') ∧ Wd σ κ (us τ 4 i 0 v) (μ) z w' := by
  refine hw.setA9 rfl (show i < 16 by omega) ?_
  have h := hw.mr
  obtain ⟨q1, q2, q3, q4, q5, q6, q7, q8, q9, q10, q11, q12, q13, q14, q15, q16, q17, q18, q19, q20, q21, q22, q23, q24, q25, q26, q27, q28, q29, q30, q31, q32, q33, q34, q35, q36, q37, q38⟩ := h
  refine ⟨?_, ?_, ?_, ?_, ?_, ?_, ?_, ?_, ?_, ?_, ?_, ?_, ?_, ?_, ?_, ?_, ?_, ?_, ?_, ?_, ?_, ?_, ?_, ?_, ?_, ?_, ?_, ?_, ?_, ?_, ?_, ?_, ?_, ?_, ?_, ?_, ?_, ?_⟩
  · simpa [u3, us, fromS, wfromS, readyS, toS, wtoS, dueS] using q1
  · simpa [u3, us, fromS, wfromS, readyS, toS, wtoS, dueS] using q2
  · simpa [u3, us, fromS, wfromS, readyS, toS, wtoS, dueS] using q3
  · simpa [u3, us, fromS, wfromS, readyS, toS, wtoS, dueS] using q4
  · simpa [u3, us, fromS, wfromS, readyS, toS, wtoS, dueS] using q5
  · simpa [u3, us, fromS, wfromS, readyS, toS, wtoS, dueS] using q6
  · simpa [u3, us, fromS, wfromS, readyS, toS, wtoS, dueS] using q7
  · simpa [u3, us, fromS, wfromS, readyS, toS, wtoS, dueS] using q8
  · simpa [u3, us, fromS, wfromS, readyS, toS, wtoS, dueS] using q9
  · simpa [u3, us, fromS, wfromS, readyS, toS, wtoS, dueS] using q10
  · simpa [u3, us, fromS, wfromS, readyS, toS, wtoS, dueS] using q11
  · simpa [u3, us, fromS, wfromS, readyS, toS, wtoS, dueS] using q12
  · simpa [u3, us, fromS, wfromS, readyS, toS, wtoS, dueS] using q13
  · intro t
    have q := q14 t
    simp only [u3, us] at *; (repeat' split) <;> first | rfl | assumption | omega | (exfalso; omega) | simp_all
  · simpa [u3, us, fromS, wfromS, readyS, toS, wtoS, dueS] using q15
  · simpa [u3, us, fromS, wfromS, readyS, toS, wtoS, dueS] using q16
  · simpa [u3, us, fromS, wfromS, readyS, toS, wtoS, dueS] using q17
  · simpa [u3, us, fromS, wfromS, readyS, toS, wtoS, dueS] using q18
  · simpa [u3, us, fromS, wfromS, readyS, toS, wtoS, dueS] using q19
  · simpa [u3, us, fromS, wfromS, readyS, toS, wtoS, dueS] using q20
  · simpa [u3, us, fromS, wfromS, readyS, toS, wtoS, dueS] using q21
  · simpa [u3, us, fromS, wfromS, readyS, toS, wtoS, dueS] using q22
  · simpa [u3, us, fromS, wfromS, readyS, toS, wtoS, dueS] using q23
  · simpa [u3, us, fromS, wfromS, readyS, toS, wtoS, dueS] using q24
  · simpa [u3, us, fromS, wfromS, readyS, toS, wtoS, dueS] using q25
  · simpa [u3, us, fromS, wfromS, readyS, toS, wtoS, dueS] using q26
  · simpa [u3, us, fromS, wfromS, readyS, toS, wtoS, dueS] using q27
  · simpa [u3, us, fromS, wfromS, readyS, toS, wtoS, dueS] using q28
  · simpa [u3, us, fromS, wfromS, readyS, toS, wtoS, dueS] using q29
  · simpa [u3, us, fromS, wfromS, readyS, toS, wtoS, dueS] using q30
  · simpa [u3, us, fromS, wfromS, readyS, toS, wtoS, dueS] using q31
  · simpa [u3, us, fromS, wfromS, readyS, toS, wtoS, dueS] using q32
  · simpa [u3, us, fromS, wfromS, readyS, toS, wtoS, dueS] using q33
  · simpa [u3, us, fromS, wfromS, readyS, toS, wtoS, dueS] using q34
  · simpa [u3, us, fromS, wfromS, readyS, toS, wtoS, dueS] using q35
  · simpa [u3, us, fromS, wfromS, readyS, toS, wtoS, dueS] using q36
  · simpa [u3, us, fromS, wfromS, readyS, toS, wtoS, dueS] using q37
  · simpa [u3, us, fromS, wfromS, readyS, toS, wtoS, dueS] using q38
theorem t_home (hw : Wd σ κ τ μ z w) {i v : Nat} (hi : i < 60) : ∃ w', pst 9 14 (nI i) (nI v) w = some (.inl (), w') ∧ Wd σ κ (us τ 8 i 0 v) (μ) z w' := by
  refine hw.setA9 rfl (show i < 60 by omega) ?_
  have h := hw.mr
  obtain ⟨q1, q2, q3, q4, q5, q6, q7, q8, q9, q10, q11, q12, q13, q14, q15, q16, q17, q18, q19, q20, q21, q22, q23, q24, q25, q26, q27, q28, q29, q30, q31, q32, q33, q34, q35, q36, q37, q38⟩ := h
  refine ⟨?_, ?_, ?_, ?_, ?_, ?_, ?_, ?_, ?_, ?_, ?_, ?_, ?_, ?_, ?_, ?_, ?_, ?_, ?_, ?_, ?_, ?_, ?_, ?_, ?_, ?_, ?_, ?_, ?_, ?_, ?_, ?_, ?_, ?_, ?_, ?_, ?_, ?_⟩
  · simpa [u3, us, fromS, wfromS, readyS, toS, wtoS, dueS] using q1
  · simpa [u3, us, fromS, wfromS, readyS, toS, wtoS, dueS] using q2
  · simpa [u3, us, fromS, wfromS, readyS, toS, wtoS, dueS] using q3
  · simpa [u3, us, fromS, wfromS, readyS, toS, wtoS, dueS] using q4
  · simpa [u3, us, fromS, wfromS, readyS, toS, wtoS, dueS] using q5
  · simpa [u3, us, fromS, wfromS, readyS, toS, wtoS, dueS] using q6
  · simpa [u3, us, fromS, wfromS, readyS, toS, wtoS, dueS] using q7
  · simpa [u3, us, fromS, wfromS, readyS, toS, wtoS, dueS] using q8
  · simpa [u3, us, fromS, wfromS, readyS, toS, wtoS, dueS] using q9
  · simpa [u3, us, fromS, wfromS, readyS, toS, wtoS, dueS] using q10
  · simpa [u3, us, fromS, wfromS, readyS, toS, wtoS, dueS] using q11
  · simpa [u3, us, fromS, wfromS, readyS, toS, wtoS, dueS] using q12
  · simpa [u3, us, fromS, wfromS, readyS, toS, wtoS, dueS] using q13
  · simpa [u3, us, fromS, wfromS, readyS, toS, wtoS, dueS] using q14
  · intro b
    have q := q15 b
    simp only [u3, us] at *; (repeat' split) <;> first | rfl | assumption | omega | (exfalso; omega) | simp_all
  · intro b
    have q := q16 b
    simp only [u3, us] at *; (repeat' split) <;> first | rfl | assumption | omega | (exfalso; omega) | simp_all
  · intro b
    have q := q17 b
    simp only [u3, us] at *; (repeat' split) <;> first | rfl | assumption | omega | (exfalso; omega) | simp_all
  · intro b
    have q := q18 b
    simp only [u3, us] at *; (repeat' split) <;> first | rfl | assumption | omega | (exfalso; omega) | simp_all
  · intro b
    have q := q19 b
    simp only [u3, us] at *; (repeat' split) <;> first | rfl | assumption | omega | (exfalso; omega) | simp_all
  · intro b
    have q := q20 b
    simp only [u3, us] at *; (repeat' split) <;> first | rfl | assumption | omega | (exfalso; omega) | simp_all
  · intro b
    have q := q21 b
    simp only [u3, us] at *; (repeat' split) <;> first | rfl | assumption | omega | (exfalso; omega) | simp_all
  · intro b
    have q := q22 b
    simp only [u3, us] at *; (repeat' split) <;> first | rfl | assumption | omega | (exfalso; omega) | simp_all
  · simpa [u3, us, fromS, wfromS, readyS, toS, wtoS, dueS] using q23
  · simpa [u3, us, fromS, wfromS, readyS, toS, wtoS, dueS] using q24
  · simpa [u3, us, fromS, wfromS, readyS, toS, wtoS, dueS] using q25
  · simpa [u3, us, fromS, wfromS, readyS, toS, wtoS, dueS] using q26
  · simpa [u3, us, fromS, wfromS, readyS, toS, wtoS, dueS] using q27
  · simpa [u3, us, fromS, wfromS, readyS, toS, wtoS, dueS] using q28
  · simpa [u3, us, fromS, wfromS, readyS, toS, wtoS, dueS] using q29
  · simpa [u3, us, fromS, wfromS, readyS, toS, wtoS, dueS] using q30
  · simpa [u3, us, fromS, wfromS, readyS, toS, wtoS, dueS] using q31
  · simpa [u3, us, fromS, wfromS, readyS, toS, wtoS, dueS] using q32
  · simpa [u3, us, fromS, wfromS, readyS, toS, wtoS, dueS] using q33
  · simpa [u3, us, fromS, wfromS, readyS, toS, wtoS, dueS] using q34
  · simpa [u3, us, fromS, wfromS, readyS, toS, wtoS, dueS] using q35
  · simpa [u3, us, fromS, wfromS, readyS, toS, wtoS, dueS] using q36
  · simpa [u3, us, fromS, wfromS, readyS, toS, wtoS, dueS] using q37
  · simpa [u3, us, fromS, wfromS, readyS, toS, wtoS, dueS] using q38
theorem t_walk (hw : Wd σ κ τ μ z w) {i v : Nat} (hi : i < 60) : ∃ w', pst 9 15 (nI i) (nI v) w = some (.inl (), w') ∧ Wd σ κ (us τ 8 i 1 v) (μ) z w' := by
  refine hw.setA9 rfl (show i < 60 by omega) ?_
  have h := hw.mr
  obtain ⟨q1, q2, q3, q4, q5, q6, q7, q8, q9, q10, q11, q12, q13, q14, q15, q16, q17, q18, q19, q20, q21, q22, q23, q24, q25, q26, q27, q28, q29, q30, q31, q32, q33, q34, q35, q36, q37, q38⟩ := h
  refine ⟨?_, ?_, ?_, ?_, ?_, ?_, ?_, ?_, ?_, ?_, ?_, ?_, ?_, ?_, ?_, ?_, ?_, ?_, ?_, ?_, ?_, ?_, ?_, ?_, ?_, ?_, ?_, ?_, ?_, ?_, ?_, ?_, ?_, ?_, ?_, ?_, ?_, ?_⟩
  · simpa [u3, us, fromS, wfromS, readyS, toS, wtoS, dueS] using q1
  · simpa [u3, us, fromS, wfromS, readyS, toS, wtoS, dueS] using q2
  · simpa [u3, us, fromS, wfromS, readyS, toS, wtoS, dueS] using q3
  · simpa [u3, us, fromS, wfromS, readyS, toS, wtoS, dueS] using q4
  · simpa [u3, us, fromS, wfromS, readyS, toS, wtoS, dueS] using q5
  · simpa [u3, us, fromS, wfromS, readyS, toS, wtoS, dueS] using q6
  · simpa [u3, us, fromS, wfromS, readyS, toS, wtoS, dueS] using q7
  · simpa [u3, us, fromS, wfromS, readyS, toS, wtoS, dueS] using q8
  · simpa [u3, us, fromS, wfromS, readyS, toS, wtoS, dueS] using q9
  · simpa [u3, us, fromS, wfromS, readyS, toS, wtoS, dueS] using q10
  · simpa [u3, us, fromS, wfromS, readyS, toS, wtoS, dueS] using q11
  · simpa [u3, us, fromS, wfromS, readyS, toS, wtoS, dueS] using q12
  · simpa [u3, us, fromS, wfromS, readyS, toS, wtoS, dueS] using q13
  · simpa [u3, us, fromS, wfromS, readyS, toS, wtoS, dueS] using q14
  · intro b
    have q := q15 b
    simp only [u3, us] at *; (repeat' split) <;> first | rfl | assumption | omega | (exfalso; omega) | simp_all
  · intro b
    have q := q16 b
    simp only [u3, us] at *; (repeat' split) <;> first | rfl | assumption | omega | (exfalso; omega) | simp_all
  · intro b
    have q := q17 b
    simp only [u3, us] at *; (repeat' split) <;> first | rfl | assumption | omega | (exfalso; omega) | simp_all
  · intro b
    have q := q18 b
    simp only [u3, us] at *; (repeat' split) <;> first | rfl | assumption | omega | (exfalso; omega) | simp_all
  · intro b
    have q := q19 b
    simp only [u3, us] at *; (repeat' split) <;> first | rfl | assumption | omega | (exfalso; omega) | simp_all
  · intro b
    have q := q20 b
    simp only [u3, us] at *; (repeat' split) <;> first | rfl | assumption | omega | (exfalso; omega) | simp_all
  · intro b
    have q := q21 b
    simp only [u3, us] at *; (repeat' split) <;> first | rfl | assumption | omega | (exfalso; omega) | simp_all
  · intro b
    have q := q22 b
    simp only [u3, us] at *; (repeat' split) <;> first | rfl | assumption | omega | (exfalso; omega) | simp_all
  · simpa [u3, us, fromS, wfromS, readyS, toS, wtoS, dueS] using q23
  · simpa [u3, us, fromS, wfromS, readyS, toS, wtoS, dueS] using q24
  · simpa [u3, us, fromS, wfromS, readyS, toS, wtoS, dueS] using q25
  · simpa [u3, us, fromS, wfromS, readyS, toS, wtoS, dueS] using q26
  · simpa [u3, us, fromS, wfromS, readyS, toS, wtoS, dueS] using q27
  · simpa [u3, us, fromS, wfromS, readyS, toS, wtoS, dueS] using q28
  · simpa [u3, us, fromS, wfromS, readyS, toS, wtoS, dueS] using q29
  · simpa [u3, us, fromS, wfromS, readyS, toS, wtoS, dueS] using q30
  · simpa [u3, us, fromS, wfromS, readyS, toS, wtoS, dueS] using q31
  · simpa [u3, us, fromS, wfromS, readyS, toS, wtoS, dueS] using q32
  · simpa [u3, us, fromS, wfromS, readyS, toS, wtoS, dueS] using q33
  · simpa [u3, us, fromS, wfromS, readyS, toS, wtoS, dueS] using q34
  · simpa [u3, us, fromS, wfromS, readyS, toS, wtoS, dueS] using q35
  · simpa [u3, us, fromS, wfromS, readyS, toS, wtoS, dueS] using q36
  · simpa [u3, us, fromS, wfromS, readyS, toS, wtoS, dueS] using q37
  · simpa [u3, us, fromS, wfromS, readyS, toS, wtoS, dueS] using q38
theorem t_ready (hw : Wd σ κ τ μ z w) {i v : Nat} (hi : i < 60) : ∃ w', pst 9 16 (nI i) (nI v) w = some (.inl (), w') ∧ Wd σ κ (us τ 8 i 2 v) (μ) z w' := by
  refine hw.setA9 rfl (show i < 60 by omega) ?_
  have h := hw.mr
  obtain ⟨q1, q2, q3, q4, q5, q6, q7, q8, q9, q10, q11, q12, q13, q14, q15, q16, q17, q18, q19, q20, q21, q22, q23, q24, q25, q26, q27, q28, q29, q30, q31, q32, q33, q34, q35, q36, q37, q38⟩ := h
  refine ⟨?_, ?_, ?_, ?_, ?_, ?_, ?_, ?_, ?_, ?_, ?_, ?_, ?_, ?_, ?_, ?_, ?_, ?_, ?_, ?_, ?_, ?_, ?_, ?_, ?_, ?_, ?_, ?_, ?_, ?_, ?_, ?_, ?_, ?_, ?_, ?_, ?_, ?_⟩
  · simpa [u3, us, fromS, wfromS, readyS, toS, wtoS, dueS] using q1
  · simpa [u3, us, fromS, wfromS, readyS, toS, wtoS, dueS] using q2
  · simpa [u3, us, fromS, wfromS, readyS, toS, wtoS, dueS] using q3
  · simpa [u3, us, fromS, wfromS, readyS, toS, wtoS, dueS] using q4
  · simpa [u3, us, fromS, wfromS, readyS, toS, wtoS, dueS] using q5
  · simpa [u3, us, fromS, wfromS, readyS, toS, wtoS, dueS] using q6
  · simpa [u3, us, fromS, wfromS, readyS, toS, wtoS, dueS] using q7
  · simpa [u3, us, fromS, wfromS, readyS, toS, wtoS, dueS] using q8
  · simpa [u3, us, fromS, wfromS, readyS, toS, wtoS, dueS] using q9
  · simpa [u3, us, fromS, wfromS, readyS, toS, wtoS, dueS] using q10
  · simpa [u3, us, fromS, wfromS, readyS, toS, wtoS, dueS] using q11
  · simpa [u3, us, fromS, wfromS, readyS, toS, wtoS, dueS] using q12
  · simpa [u3, us, fromS, wfromS, readyS, toS, wtoS, dueS] using q13
  · simpa [u3, us, fromS, wfromS, readyS, toS, wtoS, dueS] using q14
  · intro b
    have q := q15 b
    simp only [u3, us] at *; (repeat' split) <;> first | rfl | assumption | omega | (exfalso; omega) | simp_all
  · intro b
    have q := q16 b
    simp only [u3, us] at *; (repeat' split) <;> first | rfl | assumption | omega | (exfalso; omega) | simp_all
  · intro b
    have q := q17 b
    simp only [u3, us] at *; (repeat' split) <;> first | rfl | assumption | omega | (exfalso; omega) | simp_all
  · intro b
    have q := q18 b
    simp only [u3, us] at *; (repeat' split) <;> first | rfl | assumption | omega | (exfalso; omega) | simp_all
  · intro b
    have q := q19 b
    simp only [u3, us] at *; (repeat' split) <;> first | rfl | assumption | omega | (exfalso; omega) | simp_all
  · intro b
    have q := q20 b
    simp only [u3, us] at *; (repeat' split) <;> first | rfl | assumption | omega | (exfalso; omega) | simp_all
  · intro b
    have q := q21 b
    simp only [u3, us] at *; (repeat' split) <;> first | rfl | assumption | omega | (exfalso; omega) | simp_all
  · intro b
    have q := q22 b
    simp only [u3, us] at *; (repeat' split) <;> first | rfl | assumption | omega | (exfalso; omega) | simp_all
  · simpa [u3, us, fromS, wfromS, readyS, toS, wtoS, dueS] using q23
  · simpa [u3, us, fromS, wfromS, readyS, toS, wtoS, dueS] using q24
  · simpa [u3, us, fromS, wfromS, readyS, toS, wtoS, dueS] using q25
  · simpa [u3, us, fromS, wfromS, readyS, toS, wtoS, dueS] using q26
  · simpa [u3, us, fromS, wfromS, readyS, toS, wtoS, dueS] using q27
  · simpa [u3, us, fromS, wfromS, readyS, toS, wtoS, dueS] using q28
  · simpa [u3, us, fromS, wfromS, readyS, toS, wtoS, dueS] using q29
  · simpa [u3, us, fromS, wfromS, readyS, toS, wtoS, dueS] using q30
  · simpa [u3, us, fromS, wfromS, readyS, toS, wtoS, dueS] using q31
  · simpa [u3, us, fromS, wfromS, readyS, toS, wtoS, dueS] using q32
  · simpa [u3, us, fromS, wfromS, readyS, toS, wtoS, dueS] using q33
  · simpa [u3, us, fromS, wfromS, readyS, toS, wtoS, dueS] using q34
  · simpa [u3, us, fromS, wfromS, readyS, toS, wtoS, dueS] using q35
  · simpa [u3, us, fromS, wfromS, readyS, toS, wtoS, dueS] using q36
  · simpa [u3, us, fromS, wfromS, readyS, toS, wtoS, dueS] using q37
  · simpa [u3, us, fromS, wfromS, readyS, toS, wtoS, dueS] using q38
theorem t_desk (hw : Wd σ κ τ μ z w) {i v : Nat} (hi : i < 60) : ∃ w', pst 9 17 (nI i) (nI v) w = some (.inl (), w') ∧ Wd σ κ (us τ 8 i 3 v) (μ) z w' := by
  refine hw.setA9 rfl (show i < 60 by omega) ?_
  have h := hw.mr
  obtain ⟨q1, q2, q3, q4, q5, q6, q7, q8, q9, q10, q11, q12, q13, q14, q15, q16, q17, q18, q19, q20, q21, q22, q23, q24, q25, q26, q27, q28, q29, q30, q31, q32, q33, q34, q35, q36, q37, q38⟩ := h
  refine ⟨?_, ?_, ?_, ?_, ?_, ?_, ?_, ?_, ?_, ?_, ?_, ?_, ?_, ?_, ?_, ?_, ?_, ?_, ?_, ?_, ?_, ?_, ?_, ?_, ?_, ?_, ?_, ?_, ?_, ?_, ?_, ?_, ?_, ?_, ?_, ?_, ?_, ?_⟩
  · simpa [u3, us, fromS, wfromS, readyS, toS, wtoS, dueS] using q1
  · simpa [u3, us, fromS, wfromS, readyS, toS, wtoS, dueS] using q2
  · simpa [u3, us, fromS, wfromS, readyS, toS, wtoS, dueS] using q3
  · simpa [u3, us, fromS, wfromS, readyS, toS, wtoS, dueS] using q4
  · simpa [u3, us, fromS, wfromS, readyS, toS, wtoS, dueS] using q5
  · simpa [u3, us, fromS, wfromS, readyS, toS, wtoS, dueS] using q6
  · simpa [u3, us, fromS, wfromS, readyS, toS, wtoS, dueS] using q7
  · simpa [u3, us, fromS, wfromS, readyS, toS, wtoS, dueS] using q8
  · simpa [u3, us, fromS, wfromS, readyS, toS, wtoS, dueS] using q9
  · simpa [u3, us, fromS, wfromS, readyS, toS, wtoS, dueS] using q10
  · simpa [u3, us, fromS, wfromS, readyS, toS, wtoS, dueS] using q11
  · simpa [u3, us, fromS, wfromS, readyS, toS, wtoS, dueS] using q12
  · simpa [u3, us, fromS, wfromS, readyS, toS, wtoS, dueS] using q13
  · simpa [u3, us, fromS, wfromS, readyS, toS, wtoS, dueS] using q14
  · intro b
    have q := q15 b
    simp only [u3, us] at *; (repeat' split) <;> first | rfl | assumption | omega | (exfalso; omega) | simp_all
  · intro b
    have q := q16 b
    simp only [u3, us] at *; (repeat' split) <;> first | rfl | assumption | omega | (exfalso; omega) | simp_all
  · intro b
    have q := q17 b
    simp only [u3, us] at *; (repeat' split) <;> first | rfl | assumption | omega | (exfalso; omega) | simp_all
  · intro b
    have q := q18 b
    simp only [u3, us] at *; (repeat' split) <;> first | rfl | assumption | omega | (exfalso; omega) | simp_all
  · intro b
    have q := q19 b
    simp only [u3, us] at *; (repeat' split) <;> first | rfl | assumption | omega | (exfalso; omega) | simp_all
  · intro b
    have q := q20 b
    simp only [u3, us] at *; (repeat' split) <;> first | rfl | assumption | omega | (exfalso; omega) | simp_all
  · intro b
    have q := q21 b
    simp only [u3, us] at *; (repeat' split) <;> first | rfl | assumption | omega | (exfalso; omega) | simp_all
  · intro b
    have q := q22 b
    simp only [u3, us] at *; (repeat' split) <;> first | rfl | assumption | omega | (exfalso; omega) | simp_all
  · simpa [u3, us, fromS, wfromS, readyS, toS, wtoS, dueS] using q23
  · simpa [u3, us, fromS, wfromS, readyS, toS, wtoS, dueS] using q24
  · simpa [u3, us, fromS, wfromS, readyS, toS, wtoS, dueS] using q25
  · simpa [u3, us, fromS, wfromS, readyS, toS, wtoS, dueS] using q26
  · simpa [u3, us, fromS, wfromS, readyS, toS, wtoS, dueS] using q27
  · simpa [u3, us, fromS, wfromS, readyS, toS, wtoS, dueS] using q28
  · simpa [u3, us, fromS, wfromS, readyS, toS, wtoS, dueS] using q29
  · simpa [u3, us, fromS, wfromS, readyS, toS, wtoS, dueS] using q30
  · simpa [u3, us, fromS, wfromS, readyS, toS, wtoS, dueS] using q31
  · simpa [u3, us, fromS, wfromS, readyS, toS, wtoS, dueS] using q32
  · simpa [u3, us, fromS, wfromS, readyS, toS, wtoS, dueS] using q33
  · simpa [u3, us, fromS, wfromS, readyS, toS, wtoS, dueS] using q34
  · simpa [u3, us, fromS, wfromS, readyS, toS, wtoS, dueS] using q35
  · simpa [u3, us, fromS, wfromS, readyS, toS, wtoS, dueS] using q36
  · simpa [u3, us, fromS, wfromS, readyS, toS, wtoS, dueS] using q37
  · simpa [u3, us, fromS, wfromS, readyS, toS, wtoS, dueS] using q38
theorem t_walkT (hw : Wd σ κ τ μ z w) {i v : Nat} (hi : i < 60) : ∃ w', pst 9 18 (nI i) (nI v) w = some (.inl (), w') ∧ Wd σ κ (us τ 8 i 4 v) (μ) z w' := by
  refine hw.setA9 rfl (show i < 60 by omega) ?_
  have h := hw.mr
  obtain ⟨q1, q2, q3, q4, q5, q6, q7, q8, q9, q10, q11, q12, q13, q14, q15, q16, q17, q18, q19, q20, q21, q22, q23, q24, q25, q26, q27, q28, q29, q30, q31, q32, q33, q34, q35, q36, q37, q38⟩ := h
  refine ⟨?_, ?_, ?_, ?_, ?_, ?_, ?_, ?_, ?_, ?_, ?_, ?_, ?_, ?_, ?_, ?_, ?_, ?_, ?_, ?_, ?_, ?_, ?_, ?_, ?_, ?_, ?_, ?_, ?_, ?_, ?_, ?_, ?_, ?_, ?_, ?_, ?_, ?_⟩
  · simpa [u3, us, fromS, wfromS, readyS, toS, wtoS, dueS] using q1
  · simpa [u3, us, fromS, wfromS, readyS, toS, wtoS, dueS] using q2
  · simpa [u3, us, fromS, wfromS, readyS, toS, wtoS, dueS] using q3
  · simpa [u3, us, fromS, wfromS, readyS, toS, wtoS, dueS] using q4
  · simpa [u3, us, fromS, wfromS, readyS, toS, wtoS, dueS] using q5
  · simpa [u3, us, fromS, wfromS, readyS, toS, wtoS, dueS] using q6
  · simpa [u3, us, fromS, wfromS, readyS, toS, wtoS, dueS] using q7
  · simpa [u3, us, fromS, wfromS, readyS, toS, wtoS, dueS] using q8
  · simpa [u3, us, fromS, wfromS, readyS, toS, wtoS, dueS] using q9
  · simpa [u3, us, fromS, wfromS, readyS, toS, wtoS, dueS] using q10
  · simpa [u3, us, fromS, wfromS, readyS, toS, wtoS, dueS] using q11
  · simpa [u3, us, fromS, wfromS, readyS, toS, wtoS, dueS] using q12
  · simpa [u3, us, fromS, wfromS, readyS, toS, wtoS, dueS] using q13
  · simpa [u3, us, fromS, wfromS, readyS, toS, wtoS, dueS] using q14
  · intro b
    have q := q15 b
    simp only [u3, us] at *; (repeat' split) <;> first | rfl | assumption | omega | (exfalso; omega) | simp_all
  · intro b
    have q := q16 b
    simp only [u3, us] at *; (repeat' split) <;> first | rfl | assumption | omega | (exfalso; omega) | simp_all
  · intro b
    have q := q17 b
    simp only [u3, us] at *; (repeat' split) <;> first | rfl | assumption | omega | (exfalso; omega) | simp_all
  · intro b
    have q := q18 b
    simp only [u3, us] at *; (repeat' split) <;> first | rfl | assumption | omega | (exfalso; omega) | simp_all
  · intro b
    have q := q19 b
    simp only [u3, us] at *; (repeat' split) <;> first | rfl | assumption | omega | (exfalso; omega) | simp_all
  · intro b
    have q := q20 b
    simp only [u3, us] at *; (repeat' split) <;> first | rfl | assumption | omega | (exfalso; omega) | simp_all
  · intro b
    have q := q21 b
    simp only [u3, us] at *; (repeat' split) <;> first | rfl | assumption | omega | (exfalso; omega) | simp_all
  · intro b
    have q := q22 b
    simp only [u3, us] at *; (repeat' split) <;> first | rfl | assumption | omega | (exfalso; omega) | simp_all
  · simpa [u3, us, fromS, wfromS, readyS, toS, wtoS, dueS] using q23
  · simpa [u3, us, fromS, wfromS, readyS, toS, wtoS, dueS] using q24
  · simpa [u3, us, fromS, wfromS, readyS, toS, wtoS, dueS] using q25
  · simpa [u3, us, fromS, wfromS, readyS, toS, wtoS, dueS] using q26
  · simpa [u3, us, fromS, wfromS, readyS, toS, wtoS, dueS] using q27
  · simpa [u3, us, fromS, wfromS, readyS, toS, wtoS, dueS] using q28
  · simpa [u3, us, fromS, wfromS, readyS, toS, wtoS, dueS] using q29
  · simpa [u3, us, fromS, wfromS, readyS, toS, wtoS, dueS] using q30
  · simpa [u3, us, fromS, wfromS, readyS, toS, wtoS, dueS] using q31
  · simpa [u3, us, fromS, wfromS, readyS, toS, wtoS, dueS] using q32
  · simpa [u3, us, fromS, wfromS, readyS, toS, wtoS, dueS] using q33
  · simpa [u3, us, fromS, wfromS, readyS, toS, wtoS, dueS] using q34
  · simpa [u3, us, fromS, wfromS, readyS, toS, wtoS, dueS] using q35
  · simpa [u3, us, fromS, wfromS, readyS, toS, wtoS, dueS] using q36
  · simpa [u3, us, fromS, wfromS, readyS, toS, wtoS, dueS] using q37
  · simpa [u3, us, fromS, wfromS, readyS, toS, wtoS, dueS] using q38
theorem t_due (hw : Wd σ κ τ μ z w) {i v : Nat} (hi : i < 60) : ∃ w', pst 9 19 (nI i) (nI v) w = some (.inl (), w') ∧ Wd σ κ (us τ 8 i 5 v) (μ) z w' := by
  refine hw.setA9 rfl (show i < 60 by omega) ?_
  have h := hw.mr
  obtain ⟨q1, q2, q3, q4, q5, q6, q7, q8, q9, q10, q11, q12, q13, q14, q15, q16, q17, q18, q19, q20, q21, q22, q23, q24, q25, q26, q27, q28, q29, q30, q31, q32, q33, q34, q35, q36, q37, q38⟩ := h
  refine ⟨?_, ?_, ?_, ?_, ?_, ?_, ?_, ?_, ?_, ?_, ?_, ?_, ?_, ?_, ?_, ?_, ?_, ?_, ?_, ?_, ?_, ?_, ?_, ?_, ?_, ?_, ?_, ?_, ?_, ?_, ?_, ?_, ?_, ?_, ?_, ?_, ?_, ?_⟩
  · simpa [u3, us, fromS, wfromS, readyS, toS, wtoS, dueS] using q1
  · simpa [u3, us, fromS, wfromS, readyS, toS, wtoS, dueS] using q2
  · simpa [u3, us, fromS, wfromS, readyS, toS, wtoS, dueS] using q3
  · simpa [u3, us, fromS, wfromS, readyS, toS, wtoS, dueS] using q4
  · simpa [u3, us, fromS, wfromS, readyS, toS, wtoS, dueS] using q5
  · simpa [u3, us, fromS, wfromS, readyS, toS, wtoS, dueS] using q6
  · simpa [u3, us, fromS, wfromS, readyS, toS, wtoS, dueS] using q7
  · simpa [u3, us, fromS, wfromS, readyS, toS, wtoS, dueS] using q8
  · simpa [u3, us, fromS, wfromS, readyS, toS, wtoS, dueS] using q9
  · simpa [u3, us, fromS, wfromS, readyS, toS, wtoS, dueS] using q10
  · simpa [u3, us, fromS, wfromS, readyS, toS, wtoS, dueS] using q11
  · simpa [u3, us, fromS, wfromS, readyS, toS, wtoS, dueS] using q12
  · simpa [u3, us, fromS, wfromS, readyS, toS, wtoS, dueS] using q13
  · simpa [u3, us, fromS, wfromS, readyS, toS, wtoS, dueS] using q14
  · intro b
    have q := q15 b
    simp only [u3, us] at *; (repeat' split) <;> first | rfl | assumption | omega | (exfalso; omega) | simp_all
  · intro b
    have q := q16 b
    simp only [u3, us] at *; (repeat' split) <;> first | rfl | assumption | omega | (exfalso; omega) | simp_all
  · intro b
    have q := q17 b
    simp only [u3, us] at *; (repeat' split) <;> first | rfl | assumption | omega | (exfalso; omega) | simp_all
  · intro b
    have q := q18 b
    simp only [u3, us] at *; (repeat' split) <;> first | rfl | assumption | omega | (exfalso; omega) | simp_all
  · intro b
    have q := q19 b
    simp only [u3, us] at *; (repeat' split) <;> first | rfl | assumption | omega | (exfalso; omega) | simp_all
  · intro b
    have q := q20 b
    simp only [u3, us] at *; (repeat' split) <;> first | rfl | assumption | omega | (exfalso; omega) | simp_all
  · intro b
    have q := q21 b
    simp only [u3, us] at *; (repeat' split) <;> first | rfl | assumption | omega | (exfalso; omega) | simp_all
  · intro b
    have q := q22 b
    simp only [u3, us] at *; (repeat' split) <;> first | rfl | assumption | omega | (exfalso; omega) | simp_all
  · simpa [u3, us, fromS, wfromS, readyS, toS, wtoS, dueS] using q23
  · simpa [u3, us, fromS, wfromS, readyS, toS, wtoS, dueS] using q24
  · simpa [u3, us, fromS, wfromS, readyS, toS, wtoS, dueS] using q25
  · simpa [u3, us, fromS, wfromS, readyS, toS, wtoS, dueS] using q26
  · simpa [u3, us, fromS, wfromS, readyS, toS, wtoS, dueS] using q27
  · simpa [u3, us, fromS, wfromS, readyS, toS, wtoS, dueS] using q28
  · simpa [u3, us, fromS, wfromS, readyS, toS, wtoS, dueS] using q29
  · simpa [u3, us, fromS, wfromS, readyS, toS, wtoS, dueS] using q30
  · simpa [u3, us, fromS, wfromS, readyS, toS, wtoS, dueS] using q31
  · simpa [u3, us, fromS, wfromS, readyS, toS, wtoS, dueS] using q32
  · simpa [u3, us, fromS, wfromS, readyS, toS, wtoS, dueS] using q33
  · simpa [u3, us, fromS, wfromS, readyS, toS, wtoS, dueS] using q34
  · simpa [u3, us, fromS, wfromS, readyS, toS, wtoS, dueS] using q35
  · simpa [u3, us, fromS, wfromS, readyS, toS, wtoS, dueS] using q36
  · simpa [u3, us, fromS, wfromS, readyS, toS, wtoS, dueS] using q37
  · simpa [u3, us, fromS, wfromS, readyS, toS, wtoS, dueS] using q38
theorem t_rback (hw : Wd σ κ τ μ z w) {i v : Nat} (hi : i < 60) : ∃ w', pst 9 20 (nI i) (nI v) w = some (.inl (), w') ∧ Wd σ κ (us τ 8 i 7 v) (μ) z w' := by
  refine hw.setA9 rfl (show i < 60 by omega) ?_
  have h := hw.mr
  obtain ⟨q1, q2, q3, q4, q5, q6, q7, q8, q9, q10, q11, q12, q13, q14, q15, q16, q17, q18, q19, q20, q21, q22, q23, q24, q25, q26, q27, q28, q29, q30, q31, q32, q33, q34, q35, q36, q37, q38⟩ := h
  refine ⟨?_, ?_, ?_, ?_, ?_, ?_, ?_, ?_, ?_, ?_, ?_, ?_, ?_, ?_, ?_, ?_, ?_, ?_, ?_, ?_, ?_, ?_, ?_, ?_, ?_, ?_, ?_, ?_, ?_, ?_, ?_, ?_, ?_, ?_, ?_, ?_, ?_, ?_⟩
  · simpa [u3, us, fromS, wfromS, readyS, toS, wtoS, dueS] using q1
  · simpa [u3, us, fromS, wfromS, readyS, toS, wtoS, dueS] using q2
  · simpa [u3, us, fromS, wfromS, readyS, toS, wtoS, dueS] using q3
  · simpa [u3, us, fromS, wfromS, readyS, toS, wtoS, dueS] using q4
  · simpa [u3, us, fromS, wfromS, readyS, toS, wtoS, dueS] using q5
  · simpa [u3, us, fromS, wfromS, readyS, toS, wtoS, dueS] using q6
  · simpa [u3, us, fromS, wfromS, readyS, toS, wtoS, dueS] using q7
  · simpa [u3, us, fromS, wfromS, readyS, toS, wtoS, dueS] using q8
  · simpa [u3, us, fromS, wfromS, readyS, toS, wtoS, dueS] using q9
  · simpa [u3, us, fromS, wfromS, readyS, toS, wtoS, dueS] using q10
  · simpa [u3, us, fromS, wfromS, readyS, toS, wtoS, dueS] using q11
  · simpa [u3, us, fromS, wfromS, readyS, toS, wtoS, dueS] using q12
  · simpa [u3, us, fromS, wfromS, readyS, toS, wtoS, dueS] using q13
  · simpa [u3, us, fromS, wfromS, readyS, toS, wtoS, dueS] using q14
  · intro b
    have q := q15 b
    simp only [u3, us] at *; (repeat' split) <;> first | rfl | assumption | omega | (exfalso; omega) | simp_all
  · intro b
    have q := q16 b
    simp only [u3, us] at *; (repeat' split) <;> first | rfl | assumption | omega | (exfalso; omega) | simp_all
  · intro b
    have q := q17 b
    simp only [u3, us] at *; (repeat' split) <;> first | rfl | assumption | omega | (exfalso; omega) | simp_all
  · intro b
    have q := q18 b
    simp only [u3, us] at *; (repeat' split) <;> first | rfl | assumption | omega | (exfalso; omega) | simp_all
  · intro b
    have q := q19 b
    simp only [u3, us] at *; (repeat' split) <;> first | rfl | assumption | omega | (exfalso; omega) | simp_all
  · intro b
    have q := q20 b
    simp only [u3, us] at *; (repeat' split) <;> first | rfl | assumption | omega | (exfalso; omega) | simp_all
  · intro b
    have q := q21 b
    simp only [u3, us] at *; (repeat' split) <;> first | rfl | assumption | omega | (exfalso; omega) | simp_all
  · intro b
    have q := q22 b
    simp only [u3, us] at *; (repeat' split) <;> first | rfl | assumption | omega | (exfalso; omega) | simp_all
  · simpa [u3, us, fromS, wfromS, readyS, toS, wtoS, dueS] using q23
  · simpa [u3, us, fromS, wfromS, readyS, toS, wtoS, dueS] using q24
  · simpa [u3, us, fromS, wfromS, readyS, toS, wtoS, dueS] using q25
  · simpa [u3, us, fromS, wfromS, readyS, toS, wtoS, dueS] using q26
  · simpa [u3, us, fromS, wfromS, readyS, toS, wtoS, dueS] using q27
  · simpa [u3, us, fromS, wfromS, readyS, toS, wtoS, dueS] using q28
  · simpa [u3, us, fromS, wfromS, readyS, toS, wtoS, dueS] using q29
  · simpa [u3, us, fromS, wfromS, readyS, toS, wtoS, dueS] using q30
  · simpa [u3, us, fromS, wfromS, readyS, toS, wtoS, dueS] using q31
  · simpa [u3, us, fromS, wfromS, readyS, toS, wtoS, dueS] using q32
  · simpa [u3, us, fromS, wfromS, readyS, toS, wtoS, dueS] using q33
  · simpa [u3, us, fromS, wfromS, readyS, toS, wtoS, dueS] using q34
  · simpa [u3, us, fromS, wfromS, readyS, toS, wtoS, dueS] using q35
  · simpa [u3, us, fromS, wfromS, readyS, toS, wtoS, dueS] using q36
  · simpa [u3, us, fromS, wfromS, readyS, toS, wtoS, dueS] using q37
  · simpa [u3, us, fromS, wfromS, readyS, toS, wtoS, dueS] using q38
theorem t_emp (hw : Wd σ κ τ μ z w) {i v : Nat} (hi : i < 60) : ∃ w', pst 9 21 (nI i) (nI v) w = some (.inl (), w') ∧ Wd σ κ (us τ 8 i 6 v) (μ) z w' := by
  refine hw.setA9 rfl (show i < 60 by omega) ?_
  have h := hw.mr
  obtain ⟨q1, q2, q3, q4, q5, q6, q7, q8, q9, q10, q11, q12, q13, q14, q15, q16, q17, q18, q19, q20, q21, q22, q23, q24, q25, q26, q27, q28, q29, q30, q31, q32, q33, q34, q35, q36, q37, q38⟩ := h
  refine ⟨?_, ?_, ?_, ?_, ?_, ?_, ?_, ?_, ?_, ?_, ?_, ?_, ?_, ?_, ?_, ?_, ?_, ?_, ?_, ?_, ?_, ?_, ?_, ?_, ?_, ?_, ?_, ?_, ?_, ?_, ?_, ?_, ?_, ?_, ?_, ?_, ?_, ?_⟩
  · simpa [u3, us, fromS, wfromS, readyS, toS, wtoS, dueS] using q1
  · simpa [u3, us, fromS, wfromS, readyS, toS, wtoS, dueS] using q2
  · simpa [u3, us, fromS, wfromS, readyS, toS, wtoS, dueS] using q3
  · simpa [u3, us, fromS, wfromS, readyS, toS, wtoS, dueS] using q4
  · simpa [u3, us, fromS, wfromS, readyS, toS, wtoS, dueS] using q5
  · simpa [u3, us, fromS, wfromS, readyS, toS, wtoS, dueS] using q6
  · simpa [u3, us, fromS, wfromS, readyS, toS, wtoS, dueS] using q7
  · simpa [u3, us, fromS, wfromS, readyS, toS, wtoS, dueS] using q8
  · simpa [u3, us, fromS, wfromS, readyS, toS, wtoS, dueS] using q9
  · simpa [u3, us, fromS, wfromS, readyS, toS, wtoS, dueS] using q10
  · simpa [u3, us, fromS, wfromS, readyS, toS, wtoS, dueS] using q11
  · simpa [u3, us, fromS, wfromS, readyS, toS, wtoS, dueS] using q12
  · simpa [u3, us, fromS, wfromS, readyS, toS, wtoS, dueS] using q13
  · simpa [u3, us, fromS, wfromS, readyS, toS, wtoS, dueS] using q14
  · intro b
    have q := q15 b
    simp only [u3, us] at *; (repeat' split) <;> first | rfl | assumption | omega | (exfalso; omega) | simp_all
  · intro b
    have q := q16 b
    simp only [u3, us] at *; (repeat' split) <;> first | rfl | assumption | omega | (exfalso; omega) | simp_all
  · intro b
    have q := q17 b
    simp only [u3, us] at *; (repeat' split) <;> first | rfl | assumption | omega | (exfalso; omega) | simp_all
  · intro b
    have q := q18 b
    simp only [u3, us] at *; (repeat' split) <;> first | rfl | assumption | omega | (exfalso; omega) | simp_all
  · intro b
    have q := q19 b
    simp only [u3, us] at *; (repeat' split) <;> first | rfl | assumption | omega | (exfalso; omega) | simp_all
  · intro b
    have q := q20 b
    simp only [u3, us] at *; (repeat' split) <;> first | rfl | assumption | omega | (exfalso; omega) | simp_all
  · intro b
    have q := q21 b
    simp only [u3, us] at *; (repeat' split) <;> first | rfl | assumption | omega | (exfalso; omega) | simp_all
  · intro b
    have q := q22 b
    simp only [u3, us] at *; (repeat' split) <;> first | rfl | assumption | omega | (exfalso; omega) | simp_all
  · simpa [u3, us, fromS, wfromS, readyS, toS, wtoS, dueS] using q23
  · simpa [u3, us, fromS, wfromS, readyS, toS, wtoS, dueS] using q24
  · simpa [u3, us, fromS, wfromS, readyS, toS, wtoS, dueS] using q25
  · simpa [u3, us, fromS, wfromS, readyS, toS, wtoS, dueS] using q26
  · simpa [u3, us, fromS, wfromS, readyS, toS, wtoS, dueS] using q27
  · simpa [u3, us, fromS, wfromS, readyS, toS, wtoS, dueS] using q28
  · simpa [u3, us, fromS, wfromS, readyS, toS, wtoS, dueS] using q29
  · simpa [u3, us, fromS, wfromS, readyS, toS, wtoS, dueS] using q30
  · simpa [u3, us, fromS, wfromS, readyS, toS, wtoS, dueS] using q31
  · simpa [u3, us, fromS, wfromS, readyS, toS, wtoS, dueS] using q32
  · simpa [u3, us, fromS, wfromS, readyS, toS, wtoS, dueS] using q33
  · simpa [u3, us, fromS, wfromS, readyS, toS, wtoS, dueS] using q34
  · simpa [u3, us, fromS, wfromS, readyS, toS, wtoS, dueS] using q35
  · simpa [u3, us, fromS, wfromS, readyS, toS, wtoS, dueS] using q36
  · simpa [u3, us, fromS, wfromS, readyS, toS, wtoS, dueS] using q37
  · simpa [u3, us, fromS, wfromS, readyS, toS, wtoS, dueS] using q38
theorem t_had (hw : Wd σ κ τ μ z w) {i v : Nat} (hi : i < 120) : ∃ w', pst 9 22 (nI i) (nI v) w = some (.inl (), w') ∧ Wd σ κ (us τ 9 i 0 v) (μ) z w' := by
  refine hw.setA9 rfl (show i < 120 by omega) ?_
  have h := hw.mr
  obtain ⟨q1, q2, q3, q4, q5, q6, q7, q8, q9, q10, q11, q12, q13, q14, q15, q16, q17, q18, q19, q20, q21, q22, q23, q24, q25, q26, q27, q28, q29, q30, q31, q32, q33, q34, q35, q36, q37, q38⟩ := h
  refine ⟨?_, ?_, ?_, ?_, ?_, ?_, ?_, ?_, ?_, ?_, ?_, ?_, ?_, ?_, ?_, ?_, ?_, ?_, ?_, ?_, ?_, ?_, ?_, ?_, ?_, ?_, ?_, ?_, ?_, ?_, ?_, ?_, ?_, ?_, ?_, ?_, ?_, ?_⟩
  · simpa [u3, us, fromS, wfromS, readyS, toS, wtoS, dueS] using q1
  · simpa [u3, us, fromS, wfromS, readyS, toS, wtoS, dueS] using q2
  · simpa [u3, us, fromS, wfromS, readyS, toS, wtoS, dueS] using q3
  · simpa [u3, us, fromS, wfromS, readyS, toS, wtoS, dueS] using q4
  · simpa [u3, us, fromS, wfromS, readyS, toS, wtoS, dueS] using q5
  · simpa [u3, us, fromS, wfromS, readyS, toS, wtoS, dueS] using q6
  · simpa [u3, us, fromS, wfromS, readyS, toS, wtoS, dueS] using q7
  · simpa [u3, us, fromS, wfromS, readyS, toS, wtoS, dueS] using q8
  · simpa [u3, us, fromS, wfromS, readyS, toS, wtoS, dueS] using q9
  · simpa [u3, us, fromS, wfromS, readyS, toS, wtoS, dueS] using q10
  · simpa [u3, us, fromS, wfromS, readyS, toS, wtoS, dueS] using q11
  · simpa [u3, us, fromS, wfromS, readyS, toS, wtoS, dueS] using q12
  · simpa [u3, us, fromS, wfromS, readyS, toS, wtoS, dueS] using q13
  · simpa [u3, us, fromS, wfromS, readyS, toS, wtoS, dueS] using q14
  · simpa [u3, us, fromS, wfromS, readyS, toS, wtoS, dueS] using q15
  · simpa [u3, us, fromS, wfromS, readyS, toS, wtoS, dueS] using q16
  · simpa [u3, us, fromS, wfromS, readyS, toS, wtoS, dueS] using q17
  · simpa [u3, us, fromS, wfromS, readyS, toS, wtoS, dueS] using q18
  · simpa [u3, us, fromS, wfromS, readyS, toS, wtoS, dueS] using q19
  · simpa [u3, us, fromS, wfromS, readyS, toS, wtoS, dueS] using q20
  · simpa [u3, us, fromS, wfromS, readyS, toS, wtoS, dueS] using q21
  · simpa [u3, us, fromS, wfromS, readyS, toS, wtoS, dueS] using q22
  · intro w
    have q := q23 w
    simp only [u3, us] at *; (repeat' split) <;> first | rfl | assumption | omega | (exfalso; omega) | simp_all
  · intro w
    have q := q24 w
    simp only [u3, us] at *; (repeat' split) <;> first | rfl | assumption | omega | (exfalso; omega) | simp_all
  · intro w
    have q := q25 w
    simp only [u3, us] at *; (repeat' split) <;> first | rfl | assumption | omega | (exfalso; omega) | simp_all
  · intro w
    have q := q26 w
    simp only [u3, us] at *; (repeat' split) <;> first | rfl | assumption | omega | (exfalso; omega) | simp_all
  · intro w hc
    have q := q27 w
    simp only [u3, us] at *; (repeat' split) <;> first | rfl | assumption | omega | (exfalso; omega) | simp_all
  · simpa [u3, us, fromS, wfromS, readyS, toS, wtoS, dueS] using q28
  · simpa [u3, us, fromS, wfromS, readyS, toS, wtoS, dueS] using q29
  · simpa [u3, us, fromS, wfromS, readyS, toS, wtoS, dueS] using q30
  · simpa [u3, us, fromS, wfromS, readyS, toS, wtoS, dueS] using q31
  · simpa [u3, us, fromS, wfromS, readyS, toS, wtoS, dueS] using q32
  · simpa [u3, us, fromS, wfromS, readyS, toS, wtoS, dueS] using q33
  · simpa [u3, us, fromS, wfromS, readyS, toS, wtoS, dueS] using q34
  · simpa [u3, us, fromS, wfromS, readyS, toS, wtoS, dueS] using q35
  · simpa [u3, us, fromS, wfromS, readyS, toS, wtoS, dueS] using q36
  · simpa [u3, us, fromS, wfromS, readyS, toS, wtoS, dueS] using q37
  · simpa [u3, us, fromS, wfromS, readyS, toS, wtoS, dueS] using q38
theorem t_many (hw : Wd σ κ τ μ z w) {i v : Nat} (hi : i < 120) : ∃ w', pst 9 24 (nI i) (nI v) w = some (.inl (), w') ∧ Wd σ κ (us τ 9 i 2 v) (μ) z w' := by
  refine hw.setA9 rfl (show i < 120 by omega) ?_
  have h := hw.mr
  obtain ⟨q1, q2, q3, q4, q5, q6, q7, q8, q9, q10, q11, q12, q13, q14, q15, q16, q17, q18, q19, q20, q21, q22, q23, q24, q25, q26, q27, q28, q29, q30, q31, q32, q33, q34, q35, q36, q37, q38⟩ := h
  refine ⟨?_, ?_, ?_, ?_, ?_, ?_, ?_, ?_, ?_, ?_, ?_, ?_, ?_, ?_, ?_, ?_, ?_, ?_, ?_, ?_, ?_, ?_, ?_, ?_, ?_, ?_, ?_, ?_, ?_, ?_, ?_, ?_, ?_, ?_, ?_, ?_, ?_, ?_⟩
  · simpa [u3, us, fromS, wfromS, readyS, toS, wtoS, dueS] using q1
  · simpa [u3, us, fromS, wfromS, readyS, toS, wtoS, dueS] using q2
  · simpa [u3, us, fromS, wfromS, readyS, toS, wtoS, dueS] using q3
  · simpa [u3, us, fromS, wfromS, readyS, toS, wtoS, dueS] using q4
  · simpa [u3, us, fromS, wfromS, readyS, toS, wtoS, dueS] using q5
  · simpa [u3, us, fromS, wfromS, readyS, toS, wtoS, dueS] using q6
  · simpa [u3, us, fromS, wfromS, readyS, toS, wtoS, dueS] using q7
  · simpa [u3, us, fromS, wfromS, readyS, toS, wtoS, dueS] using q8
  · simpa [u3, us, fromS, wfromS, readyS, toS, wtoS, dueS] using q9
  · simpa [u3, us, fromS, wfromS, readyS, toS, wtoS, dueS] using q10
  · simpa [u3, us, fromS, wfromS, readyS, toS, wtoS, dueS] using q11
  · simpa [u3, us, fromS, wfromS, readyS, toS, wtoS, dueS] using q12
  · simpa [u3, us, fromS, wfromS, readyS, toS, wtoS, dueS] using q13
  · simpa [u3, us, fromS, wfromS, readyS, toS, wtoS, dueS] using q14
  · simpa [u3, us, fromS, wfromS, readyS, toS, wtoS, dueS] using q15
  · simpa [u3, us, fromS, wfromS, readyS, toS, wtoS, dueS] using q16
  · simpa [u3, us, fromS, wfromS, readyS, toS, wtoS, dueS] using q17
  · simpa [u3, us, fromS, wfromS, readyS, toS, wtoS, dueS] using q18
  · simpa [u3, us, fromS, wfromS, readyS, toS, wtoS, dueS] using q19
  · simpa [u3, us, fromS, wfromS, readyS, toS, wtoS, dueS] using q20
  · simpa [u3, us, fromS, wfromS, readyS, toS, wtoS, dueS] using q21
  · simpa [u3, us, fromS, wfromS, readyS, toS, wtoS, dueS] using q22
  · intro w
    have q := q23 w
    simp only [u3, us] at *; (repeat' split) <;> first | rfl | assumption | omega | (exfalso; omega) | simp_all
  · intro w
    have q := q24 w
    simp only [u3, us] at *; (repeat' split) <;> first | rfl | assumption | omega | (exfalso; omega) | simp_all
  · intro w
    have q := q25 w
    simp only [u3, us] at *; (repeat' split) <;> first | rfl | assumption | omega | (exfalso; omega) | simp_all
  · intro w
    have q := q26 w
    simp only [u3, us] at *; (repeat' split) <;> first | rfl | assumption | omega | (exfalso; omega) | simp_all
  · intro w hc
    have q := q27 w
    simp only [u3, us] at *; (repeat' split) <;> first | rfl | assumption | omega | (exfalso; omega) | simp_all
  · simpa [u3, us, fromS, wfromS, readyS, toS, wtoS, dueS] using q28
  · simpa [u3, us, fromS, wfromS, readyS, toS, wtoS, dueS] using q29
  · simpa [u3, us, fromS, wfromS, readyS, toS, wtoS, dueS] using q30
  · simpa [u3, us, fromS, wfromS, readyS, toS, wtoS, dueS] using q31
  · simpa [u3, us, fromS, wfromS, readyS, toS, wtoS, dueS] using q32
  · simpa [u3, us, fromS, wfromS, readyS, toS, wtoS, dueS] using q33
  · simpa [u3, us, fromS, wfromS, readyS, toS, wtoS, dueS] using q34
  · simpa [u3, us, fromS, wfromS, readyS, toS, wtoS, dueS] using q35
  · simpa [u3, us, fromS, wfromS, readyS, toS, wtoS, dueS] using q36
  · simpa [u3, us, fromS, wfromS, readyS, toS, wtoS, dueS] using q37
  · simpa [u3, us, fromS, wfromS, readyS, toS, wtoS, dueS] using q38
theorem t_sta (hw : Wd σ κ τ μ z w) {t0 k0 v : Nat} (ht : t0 < 16) (hk : k0 < 10) : ∃ w', pst 9 9 (nI (10 * t0 + k0)) (nI v) w = some (.inl (), w') ∧ Wd σ κ (us τ 5 t0 k0 v) (μ) z w' := by
  refine hw.setA9 rfl (show (10 * t0 + k0) < 160 by omega) ?_
  have h := hw.mr
  obtain ⟨q1, q2, q3, q4, q5, q6, q7, q8, q9, q10, q11, q12, q13, q14, q15, q16, q17, q18, q19, q20, q21, q22, q23, q24, q25, q26, q27, q28, q29, q30, q31, q32, q33, q34, q35, q36, q37, q38⟩ := h
  refine ⟨?_, ?_, ?_, ?_, ?_, ?_, ?_, ?_, ?_, ?_, ?_, ?_, ?_, ?_, ?_, ?_, ?_, ?_, ?_, ?_, ?_, ?_, ?_, ?_, ?_, ?_, ?_, ?_, ?_, ?_, ?_, ?_, ?_, ?_, ?_, ?_, ?_, ?_⟩
  · simpa [u3, us, fromS, wfromS, readyS, toS, wtoS, dueS] using q1
  · simpa [u3, us, fromS, wfromS, readyS, toS, wtoS, dueS] using q2
  · simpa [u3, us, fromS, wfromS, readyS, toS, wtoS, dueS] using q3
  · simpa [u3, us, fromS, wfromS, readyS, toS, wtoS, dueS] using q4
  · simpa [u3, us, fromS, wfromS, readyS, toS, wtoS, dueS] using q5
  · simpa [u3, us, fromS, wfromS, readyS, toS, wtoS, dueS] using q6
  · simpa [u3, us, fromS, wfromS, readyS, toS, wtoS, dueS] using q7
  · simpa [u3, us, fromS, wfromS, readyS, toS, wtoS, dueS] using q8
  · simpa [u3, us, fromS, wfromS, readyS, toS, wtoS, dueS] using q9
  · intro t k hc
    have q := q10 t k hc
    by_cases e : t = t0 ∧ k = k0
    · obtain ⟨rfl, rfl⟩ := e
      unfold u3 us
      first
        | (rw [if_pos ⟨rfl, rfl, rfl⟩, if_pos ⟨rfl, rfl, rfl⟩]; done)
        | (rw [if_pos ⟨rfl, rfl, rfl⟩, if_pos ⟨rfl, rfl, rfl⟩, dL_eL]; done)
    · have e2 : ¬ (10 * t + k = 10 * t0 + k0) := by omega
      unfold u3 us
      rw [if_neg (fun h => e2 h.2.2), if_neg (fun h => e h.2)]
      exact q
  · simpa [u3, us, fromS, wfromS, readyS, toS, wtoS, dueS] using q11
  · simpa [u3, us, fromS, wfromS, readyS, toS, wtoS, dueS] using q12
  · simpa [u3, us, fromS, wfromS, readyS, toS, wtoS, dueS] using q13
  · simpa [u3, us, fromS, wfromS, readyS, toS, wtoS, dueS] using q14
  · simpa [u3, us, fromS, wfromS, readyS, toS, wtoS, dueS] using q15
  · simpa [u3, us, fromS, wfromS, readyS, toS, wtoS, dueS] using q16
  · simpa [u3, us, fromS, wfromS, readyS, toS, wtoS, dueS] using q17
  · simpa [u3, us, fromS, wfromS, readyS, toS, wtoS, dueS] using q18
  · simpa [u3, us, fromS, wfromS, readyS, toS, wtoS, dueS] using q19
  · simpa [u3, us, fromS, wfromS, readyS, toS, wtoS, dueS] using q20
  · simpa [u3, us, fromS, wfromS, readyS, toS, wtoS, dueS] using q21
  · simpa [u3, us, fromS, wfromS, readyS, toS, wtoS, dueS] using q22
  · simpa [u3, us, fromS, wfromS, readyS, toS, wtoS, dueS] using q23
  · simpa [u3, us, fromS, wfromS, readyS, toS, wtoS, dueS] using q24
  · simpa [u3, us, fromS, wfromS, readyS, toS, wtoS, dueS] using q25
  · simpa [u3, us, fromS, wfromS, readyS, toS, wtoS, dueS] using q26
  · simpa [u3, us, fromS, wfromS, readyS, toS, wtoS, dueS] using q27
  · simpa [u3, us, fromS, wfromS, readyS, toS, wtoS, dueS] using q28
  · simpa [u3, us, fromS, wfromS, readyS, toS, wtoS, dueS] using q29
  · simpa [u3, us, fromS, wfromS, readyS, toS, wtoS, dueS] using q30
  · simpa [u3, us, fromS, wfromS, readyS, toS, wtoS, dueS] using q31
  · simpa [u3, us, fromS, wfromS, readyS, toS, wtoS, dueS] using q32
  · simpa [u3, us, fromS, wfromS, readyS, toS, wtoS, dueS] using q33
  · simpa [u3, us, fromS, wfromS, readyS, toS, wtoS, dueS] using q34
  · simpa [u3, us, fromS, wfromS, readyS, toS, wtoS, dueS] using q35
  · simpa [u3, us, fromS, wfromS, readyS, toS, wtoS, dueS] using q36
  · simpa [u3, us, fromS, wfromS, readyS, toS, wtoS, dueS] using q37
  · simpa [u3, us, fromS, wfromS, readyS, toS, wtoS, dueS] using q38
theorem t_min (hw : Wd σ κ τ μ z w) {t0 k0 v : Nat} (ht : t0 < 16) (hk : k0 < 10) : ∃ w', pst 9 10 (nI (10 * t0 + k0)) (nI v) w = some (.inl (), w') ∧ Wd σ κ (us τ 6 t0 k0 v) (μ) z w' := by
  refine hw.setA9 rfl (show (10 * t0 + k0) < 160 by omega) ?_
  have h := hw.mr
  obtain ⟨q1, q2, q3, q4, q5, q6, q7, q8, q9, q10, q11, q12, q13, q14, q15, q16, q17, q18, q19, q20, q21, q22, q23, q24, q25, q26, q27, q28, q29, q30, q31, q32, q33, q34, q35, q36, q37, q38⟩ := h
  refine ⟨?_, ?_, ?_, ?_, ?_, ?_, ?_, ?_, ?_, ?_, ?_, ?_, ?_, ?_, ?_, ?_, ?_, ?_, ?_, ?_, ?_, ?_, ?_, ?_, ?_, ?_, ?_, ?_, ?_, ?_, ?_, ?_, ?_, ?_, ?_, ?_, ?_, ?_⟩
  · simpa [u3, us, fromS, wfromS, readyS, toS, wtoS, dueS] using q1
  · simpa [u3, us, fromS, wfromS, readyS, toS, wtoS, dueS] using q2
  · simpa [u3, us, fromS, wfromS, readyS, toS, wtoS, dueS] using q3
  · simpa [u3, us, fromS, wfromS, readyS, toS, wtoS, dueS] using q4
  · simpa [u3, us, fromS, wfromS, readyS, toS, wtoS, dueS] using q5
  · simpa [u3, us, fromS, wfromS, readyS, toS, wtoS, dueS] using q6
  · simpa [u3, us, fromS, wfromS, readyS, toS, wtoS, dueS] using q7
  · simpa [u3, us, fromS, wfromS, readyS, toS, wtoS, dueS] using q8
  · simpa [u3, us, fromS, wfromS, readyS, toS, wtoS, dueS] using q9
  · simpa [u3, us, fromS, wfromS, readyS, toS, wtoS, dueS] using q10
  · intro t k hc
    have q := q11 t k hc
    by_cases e : t = t0 ∧ k = k0
    · obtain ⟨rfl, rfl⟩ := e
      unfold u3 us
      first
        | (rw [if_pos ⟨rfl, rfl, rfl⟩, if_pos ⟨rfl, rfl, rfl⟩]; done)
        | (rw [if_pos ⟨rfl, rfl, rfl⟩, if_pos ⟨rfl, rfl, rfl⟩, dL_eL]; done)
    · have e2 : ¬ (10 * t + k = 10 * t0 + k0) := by omega
      unfold u3 us
      rw [if_neg (fun h => e2 h.2.2), if_neg (fun h => e h.2)]
      exact q
  · simpa [u3, us, fromS, wfromS, readyS, toS, wtoS, dueS] using q12
  · simpa [u3, us, fromS, wfromS, readyS, toS, wtoS, dueS] using q13
  · simpa [u3, us, fromS, wfromS, readyS, toS, wtoS, dueS] using q14
  · simpa [u3, us, fromS, wfromS, readyS, toS, wtoS, dueS] using q15
  · simpa [u3, us, fromS, wfromS, readyS, toS, wtoS, dueS] using q16
  · simpa [u3, us, fromS, wfromS, readyS, toS, wtoS, dueS] using q17
  · simpa [u3, us, fromS, wfromS, readyS, toS, wtoS, dueS] using q18
  · simpa [u3, us, fromS, wfromS, readyS, toS, wtoS, dueS] using q19
  · simpa [u3, us, fromS, wfromS, readyS, toS, wtoS, dueS] using q20
  · simpa [u3, us, fromS, wfromS, readyS, toS, wtoS, dueS] using q21
  · simpa [u3, us, fromS, wfromS, readyS, toS, wtoS, dueS] using q22
  · simpa [u3, us, fromS, wfromS, readyS, toS, wtoS, dueS] using q23
  · simpa [u3, us, fromS, wfromS, readyS, toS, wtoS, dueS] using q24
  · simpa [u3, us, fromS, wfromS, readyS, toS, wtoS, dueS] using q25
  · simpa [u3, us, fromS, wfromS, readyS, toS, wtoS, dueS] using q26
  · simpa [u3, us, fromS, wfromS, readyS, toS, wtoS, dueS] using q27
  · simpa [u3, us, fromS, wfromS, readyS, toS, wtoS, dueS] using q28
  · simpa [u3, us, fromS, wfromS, readyS, toS, wtoS, dueS] using q29
  · simpa [u3, us, fromS, wfromS, readyS, toS, wtoS, dueS] using q30
  · simpa [u3, us, fromS, wfromS, readyS, toS, wtoS, dueS] using q31
  · simpa [u3, us, fromS, wfromS, readyS, toS, wtoS, dueS] using q32
  · simpa [u3, us, fromS, wfromS, readyS, toS, wtoS, dueS] using q33
  · simpa [u3, us, fromS, wfromS, readyS, toS, wtoS, dueS] using q34
  · simpa [u3, us, fromS, wfromS, readyS, toS, wtoS, dueS] using q35
  · simpa [u3, us, fromS, wfromS, readyS, toS, wtoS, dueS] using q36
  · simpa [u3, us, fromS, wfromS, readyS, toS, wtoS, dueS] using q37
  · simpa [u3, us, fromS, wfromS, readyS, toS, wtoS, dueS] using q38
theorem t_load (hw : Wd σ κ τ μ z w) {t0 k0 : Nat} {v : Int32} (ht : t0 < 16) (hk : k0 < 10) : ∃ w', pst 9 11 (nI (10 * t0 + k0)) (v) w = some (.inl (), w') ∧ Wd σ κ (us τ 7 t0 k0 (eL v)) (μ) z w' := by
  refine hw.setA9 rfl (show (10 * t0 + k0) < 160 by omega) ?_
  have h := hw.mr
  obtain ⟨q1, q2, q3, q4, q5, q6, q7, q8, q9, q10, q11, q12, q13, q14, q15, q16, q17, q18, q19, q20, q21, q22, q23, q24, q25, q26, q27, q28, q29, q30, q31, q32, q33, q34, q35, q36, q37, q38⟩ := h
  refine ⟨?_, ?_, ?_, ?_, ?_, ?_, ?_, ?_, ?_, ?_, ?_, ?_, ?_, ?_, ?_, ?_, ?_, ?_, ?_, ?_, ?_, ?_, ?_, ?_, ?_, ?_, ?_, ?_, ?_, ?_, ?_, ?_, ?_, ?_, ?_, ?_, ?_, ?_⟩
  · simpa [u3, us, fromS, wfromS, readyS, toS, wtoS, dueS] using q1
  · simpa [u3, us, fromS, wfromS, readyS, toS, wtoS, dueS] using q2
  · simpa [u3, us, fromS, wfromS, readyS, toS, wtoS, dueS] using q3
  · simpa [u3, us, fromS, wfromS, readyS, toS, wtoS, dueS] using q4
  · simpa [u3, us, fromS, wfromS, readyS, toS, wtoS, dueS] using q5
  · simpa [u3, us, fromS, wfromS, readyS, toS, wtoS, dueS] using q6
  · simpa [u3, us, fromS, wfromS, readyS, toS, wtoS, dueS] using q7
  · simpa [u3, us, fromS, wfromS, readyS, toS, wtoS, dueS] using q8
  · simpa [u3, us, fromS, wfromS, readyS, toS, wtoS, dueS] using q9
  · simpa [u3, us, fromS, wfromS, readyS, toS, wtoS, dueS] using q10
  · simpa [u3, us, fromS, wfromS, readyS, toS, wtoS, dueS] using q11
  · intro t k hc
    have q := q12 t k hc
    by_cases e : t = t0 ∧ k = k0
    · obtain ⟨rfl, rfl⟩ := e
      unfold u3 us
      first
        | (rw [if_pos ⟨rfl, rfl, rfl⟩, if_pos ⟨rfl, rfl, rfl⟩]; done)
        | (rw [if_pos ⟨rfl, rfl, rfl⟩, if_pos ⟨rfl, rfl, rfl⟩, dL_eL]; done)
    · have e2 : ¬ (10 * t + k = 10 * t0 + k0) := by omega
      unfold u3 us
      rw [if_neg (fun h => e2 h.2.2), if_neg (fun h => e h.2)]
      exact q
  · simpa [u3, us, fromS, wfromS, readyS, toS, wtoS, dueS] using q13
  · simpa [u3, us, fromS, wfromS, readyS, toS, wtoS, dueS] using q14
  · simpa [u3, us, fromS, wfromS, readyS, toS, wtoS, dueS] using q15
  · simpa [u3, us, fromS, wfromS, readyS, toS, wtoS, dueS] using q16
  · simpa [u3, us, fromS, wfromS, readyS, toS, wtoS, dueS] using q17
  · simpa [u3, us, fromS, wfromS, readyS, toS, wtoS, dueS] using q18
  · simpa [u3, us, fromS, wfromS, readyS, toS, wtoS, dueS] using q19
  · simpa [u3, us, fromS, wfromS, readyS, toS, wtoS, dueS] using q20
  · simpa [u3, us, fromS, wfromS, readyS, toS, wtoS, dueS] using q21
  · simpa [u3, us, fromS, wfromS, readyS, toS, wtoS, dueS] using q22
  · simpa [u3, us, fromS, wfromS, readyS, toS, wtoS, dueS] using q23
  · simpa [u3, us, fromS, wfromS, readyS, toS, wtoS, dueS] using q24
  · simpa [u3, us, fromS, wfromS, readyS, toS, wtoS, dueS] using q25
  · simpa [u3, us, fromS, wfromS, readyS, toS, wtoS, dueS] using q26
  · simpa [u3, us, fromS, wfromS, readyS, toS, wtoS, dueS] using q27
  · simpa [u3, us, fromS, wfromS, readyS, toS, wtoS, dueS] using q28
  · simpa [u3, us, fromS, wfromS, readyS, toS, wtoS, dueS] using q29
  · simpa [u3, us, fromS, wfromS, readyS, toS, wtoS, dueS] using q30
  · simpa [u3, us, fromS, wfromS, readyS, toS, wtoS, dueS] using q31
  · simpa [u3, us, fromS, wfromS, readyS, toS, wtoS, dueS] using q32
  · simpa [u3, us, fromS, wfromS, readyS, toS, wtoS, dueS] using q33
  · simpa [u3, us, fromS, wfromS, readyS, toS, wtoS, dueS] using q34
  · simpa [u3, us, fromS, wfromS, readyS, toS, wtoS, dueS] using q35
  · simpa [u3, us, fromS, wfromS, readyS, toS, wtoS, dueS] using q36
  · simpa [u3, us, fromS, wfromS, readyS, toS, wtoS, dueS] using q37
  · simpa [u3, us, fromS, wfromS, readyS, toS, wtoS, dueS] using q38
theorem t_legT (hw : Wd σ κ τ μ z w) {i0 j0 v : Nat} (hi : i0 < 120) (hj : j0 < 3) : ∃ w', pst 9 27 (nI (3 * i0 + j0)) (nI v) w = some (.inl (), w') ∧ Wd σ κ (us τ 10 i0 (3 * j0) v) (μ) z w' := by
  refine hw.setA9 rfl (show (3 * i0 + j0) < 360 by omega) ?_
  have h := hw.mr
  obtain ⟨q1, q2, q3, q4, q5, q6, q7, q8, q9, q10, q11, q12, q13, q14, q15, q16, q17, q18, q19, q20, q21, q22, q23, q24, q25, q26, q27, q28, q29, q30, q31, q32, q33, q34, q35, q36, q37, q38⟩ := h
  refine ⟨?_, ?_, ?_, ?_, ?_, ?_, ?_, ?_, ?_, ?_, ?_, ?_, ?_, ?_, ?_, ?_, ?_, ?_, ?_, ?_, ?_, ?_, ?_, ?_, ?_, ?_, ?_, ?_, ?_, ?_, ?_, ?_, ?_, ?_, ?_, ?_, ?_, ?_⟩
  · simpa [u3, us, fromS, wfromS, readyS, toS, wtoS, dueS] using q1
  · simpa [u3, us, fromS, wfromS, readyS, toS, wtoS, dueS] using q2
  · simpa [u3, us, fromS, wfromS, readyS, toS, wtoS, dueS] using q3
  · simpa [u3, us, fromS, wfromS, readyS, toS, wtoS, dueS] using q4
  · simpa [u3, us, fromS, wfromS, readyS, toS, wtoS, dueS] using q5
  · simpa [u3, us, fromS, wfromS, readyS, toS, wtoS, dueS] using q6
  · simpa [u3, us, fromS, wfromS, readyS, toS, wtoS, dueS] using q7
  · simpa [u3, us, fromS, wfromS, readyS, toS, wtoS, dueS] using q8
  · simpa [u3, us, fromS, wfromS, readyS, toS, wtoS, dueS] using q9
  · simpa [u3, us, fromS, wfromS, readyS, toS, wtoS, dueS] using q10
  · simpa [u3, us, fromS, wfromS, readyS, toS, wtoS, dueS] using q11
  · simpa [u3, us, fromS, wfromS, readyS, toS, wtoS, dueS] using q12
  · simpa [u3, us, fromS, wfromS, readyS, toS, wtoS, dueS] using q13
  · simpa [u3, us, fromS, wfromS, readyS, toS, wtoS, dueS] using q14
  · simpa [u3, us, fromS, wfromS, readyS, toS, wtoS, dueS] using q15
  · simpa [u3, us, fromS, wfromS, readyS, toS, wtoS, dueS] using q16
  · simpa [u3, us, fromS, wfromS, readyS, toS, wtoS, dueS] using q17
  · simpa [u3, us, fromS, wfromS, readyS, toS, wtoS, dueS] using q18
  · simpa [u3, us, fromS, wfromS, readyS, toS, wtoS, dueS] using q19
  · simpa [u3, us, fromS, wfromS, readyS, toS, wtoS, dueS] using q20
  · simpa [u3, us, fromS, wfromS, readyS, toS, wtoS, dueS] using q21
  · simpa [u3, us, fromS, wfromS, readyS, toS, wtoS, dueS] using q22
  · simpa [u3, us, fromS, wfromS, readyS, toS, wtoS, dueS] using q23
  · simpa [u3, us, fromS, wfromS, readyS, toS, wtoS, dueS] using q24
  · simpa [u3, us, fromS, wfromS, readyS, toS, wtoS, dueS] using q25
  · simpa [u3, us, fromS, wfromS, readyS, toS, wtoS, dueS] using q26
  · simpa [u3, us, fromS, wfromS, readyS, toS, wtoS, dueS] using q27
  · intro w i hc
    have q := q28 w i hc
    by_cases e : w = i0 ∧ i = j0
    · obtain ⟨rfl, rfl⟩ := e
      unfold u3 us
      first
        | (rw [if_pos ⟨rfl, rfl, rfl⟩, if_pos ⟨rfl, rfl, rfl⟩]; done)
        | (rw [if_neg (fun h => absurd h.2.1 (by decide)), if_neg (fun h => absurd h.2.2 (by omega))]; exact q)
    · have e2 : ¬ (3 * w + i = 3 * i0 + j0) := by omega
      unfold u3 us
      rw [if_neg (fun h => e2 h.2.2), if_neg (fun h => e (by have := h.2.1; have := h.2.2; omega))]
      exact q
  · intro w i hc
    have q := q29 w i hc
    by_cases e : w = i0 ∧ i = j0
    · obtain ⟨rfl, rfl⟩ := e
      unfold u3 us
      first
        | (rw [if_pos ⟨rfl, rfl, rfl⟩, if_pos ⟨rfl, rfl, rfl⟩]; done)
        | (rw [if_neg (fun h => absurd h.2.1 (by decide)), if_neg (fun h => absurd h.2.2 (by omega))]; exact q)
    · have e2 : ¬ (3 * w + i = 3 * i0 + j0) := by omega
      unfold u3 us
      rw [if_neg (fun h => e2 h.2.2), if_neg (fun h => e (by have := h.2.1; have := h.2.2; omega))]
      exact q
  · intro w i hc
    have q := q30 w i hc
    by_cases e : w = i0 ∧ i = j0
    · obtain ⟨rfl, rfl⟩ := e
      unfold u3 us
      first
        | (rw [if_pos ⟨rfl, rfl, rfl⟩, if_pos ⟨rfl, rfl, rfl⟩]; done)
        | (rw [if_neg (fun h => absurd h.2.1 (by decide)), if_neg (fun h => absurd h.2.2 (by omega))]; exact q)
    · have e2 : ¬ (3 * w + i = 3 * i0 + j0) := by omega
      unfold u3 us
      rw [if_neg (fun h => e2 h.2.2), if_neg (fun h => e (by have := h.2.1; have := h.2.2; omega))]
      exact q
  · simpa [u3, us, fromS, wfromS, readyS, toS, wtoS, dueS] using q31
  · simpa [u3, us, fromS, wfromS, readyS, toS, wtoS, dueS] using q32
  · simpa [u3, us, fromS, wfromS, readyS, toS, wtoS, dueS] using q33
  · simpa [u3, us, fromS, wfromS, readyS, toS, wtoS, dueS] using q34
  · simpa [u3, us, fromS, wfromS, readyS, toS, wtoS, dueS] using q35
  · simpa [u3, us, fromS, wfromS, readyS, toS, wtoS, dueS] using q36
  · simpa [u3, us, fromS, wfromS, readyS, toS, wtoS, dueS] using q37
  · simpa [u3, us, fromS, wfromS, readyS, toS, wtoS, dueS] using q38
theorem t_legN (hw : Wd σ κ τ μ z w) {i0 j0 v : Nat} (hi : i0 < 120) (hj : j0 < 3) : ∃ w', pst 9 28 (nI (3 * i0 + j0)) (nI v) w = some (.inl (), w') ∧ Wd σ κ (us τ 10 i0 (3 * j0 + 1) v) (μ) z w' := by
  refine hw.setA9 rfl (show (3 * i0 + j0) < 360 by omega) ?_
  have h := hw.mr
  obtain ⟨q1, q2, q3, q4, q5, q6, q7, q8, q9, q10, q11, q12, q13, q14, q15, q16, q17, q18, q19, q20, q21, q22, q23, q24, q25, q26, q27, q28, q29, q30, q31, q32, q33, q34, q35, q36, q37, q38⟩ := h
  refine ⟨?_, ?_, ?_, ?_, ?_, ?_, ?_, ?_, ?_, ?_, ?_, ?_, ?_, ?_, ?_, ?_, ?_, ?_, ?_, ?_, ?_, ?_, ?_, ?_, ?_, ?_, ?_, ?_, ?_, ?_, ?_, ?_, ?_, ?_, ?_, ?_, ?_, ?_⟩
  · simpa [u3, us, fromS, wfromS, readyS, toS, wtoS, dueS] using q1
  · simpa [u3, us, fromS, wfromS, readyS, toS, wtoS, dueS] using q2
  · simpa [u3, us, fromS, wfromS, readyS, toS, wtoS, dueS] using q3
  · simpa [u3, us, fromS, wfromS, readyS, toS, wtoS, dueS] using q4
  · simpa [u3, us, fromS, wfromS, readyS, toS, wtoS, dueS] using q5
  · simpa [u3, us, fromS, wfromS, readyS, toS, wtoS, dueS] using q6
  · simpa [u3, us, fromS, wfromS, readyS, toS, wtoS, dueS] using q7
  · simpa [u3, us, fromS, wfromS, readyS, toS, wtoS, dueS] using q8
  · simpa [u3, us, fromS, wfromS, readyS, toS, wtoS, dueS] using q9
  · simpa [u3, us, fromS, wfromS, readyS, toS, wtoS, dueS] using q10
  · simpa [u3, us, fromS, wfromS, readyS, toS, wtoS, dueS] using q11
  · simpa [u3, us, fromS, wfromS, readyS, toS, wtoS, dueS] using q12
  · simpa [u3, us, fromS, wfromS, readyS, toS, wtoS, dueS] using q13
  · simpa [u3, us, fromS, wfromS, readyS, toS, wtoS, dueS] using q14
  · simpa [u3, us, fromS, wfromS, readyS, toS, wtoS, dueS] using q15
  · simpa [u3, us, fromS, wfromS, readyS, toS, wtoS, dueS] using q16
  · simpa [u3, us, fromS, wfromS, readyS, toS, wtoS, dueS] using q17
  · simpa [u3, us, fromS, wfromS, readyS, toS, wtoS, dueS] using q18
  · simpa [u3, us, fromS, wfromS, readyS, toS, wtoS, dueS] using q19
  · simpa [u3, us, fromS, wfromS, readyS, toS, wtoS, dueS] using q20
  · simpa [u3, us, fromS, wfromS, readyS, toS, wtoS, dueS] using q21
  · simpa [u3, us, fromS, wfromS, readyS, toS, wtoS, dueS] using q22
  · simpa [u3, us, fromS, wfromS, readyS, toS, wtoS, dueS] using q23
  · simpa [u3, us, fromS, wfromS, readyS, toS, wtoS, dueS] using q24
  · simpa [u3, us, fromS, wfromS, readyS, toS, wtoS, dueS] using q25
  · simpa [u3, us, fromS, wfromS, readyS, toS, wtoS, dueS] using q26
  · simpa [u3, us, fromS, wfromS, readyS, toS, wtoS, dueS] using q27
  · intro w i hc
    have q := q28 w i hc
    by_cases e : w = i0 ∧ i = j0
    · obtain ⟨rfl, rfl⟩ := e
      unfold u3 us
      first
        | (rw [if_pos ⟨rfl, rfl, rfl⟩, if_pos ⟨rfl, rfl, rfl⟩]; done)
        | (rw [if_neg (fun h => absurd h.2.1 (by decide)), if_neg (fun h => absurd h.2.2 (by omega))]; exact q)
    · have e2 : ¬ (3 * w + i = 3 * i0 + j0) := by omega
      unfold u3 us
      rw [if_neg (fun h => e2 h.2.2), if_neg (fun h => e (by have := h.2.1; have := h.2.2; omega))]
      exact q
  · intro w i hc
    have q := q29 w i hc
    by_cases e : w = i0 ∧ i = j0
    · obtain ⟨rfl, rfl⟩ := e
      unfold u3 us
      first
        | (rw [if_pos ⟨rfl, rfl, rfl⟩, if_pos ⟨rfl, rfl, rfl⟩]; done)
        | (rw [if_neg (fun h => absurd h.2.1 (by decide)), if_neg (fun h => absurd h.2.2 (by omega))]; exact q)
    · have e2 : ¬ (3 * w + i = 3 * i0 + j0) := by omega
      unfold u3 us
      rw [if_neg (fun h => e2 h.2.2), if_neg (fun h => e (by have := h.2.1; have := h.2.2; omega))]
      exact q
  · intro w i hc
    have q := q30 w i hc
    by_cases e : w = i0 ∧ i = j0
    · obtain ⟨rfl, rfl⟩ := e
      unfold u3 us
      first
        | (rw [if_pos ⟨rfl, rfl, rfl⟩, if_pos ⟨rfl, rfl, rfl⟩]; done)
        | (rw [if_neg (fun h => absurd h.2.1 (by decide)), if_neg (fun h => absurd h.2.2 (by omega))]; exact q)
    · have e2 : ¬ (3 * w + i = 3 * i0 + j0) := by omega
      unfold u3 us
      rw [if_neg (fun h => e2 h.2.2), if_neg (fun h => e (by have := h.2.1; have := h.2.2; omega))]
      exact q
  · simpa [u3, us, fromS, wfromS, readyS, toS, wtoS, dueS] using q31
  · simpa [u3, us, fromS, wfromS, readyS, toS, wtoS, dueS] using q32
  · simpa [u3, us, fromS, wfromS, readyS, toS, wtoS, dueS] using q33
  · simpa [u3, us, fromS, wfromS, readyS, toS, wtoS, dueS] using q34
  · simpa [u3, us, fromS, wfromS, readyS, toS, wtoS, dueS] using q35
  · simpa [u3, us, fromS, wfromS, readyS, toS, wtoS, dueS] using q36
  · simpa [u3, us, fromS, wfromS, readyS, toS, wtoS, dueS] using q37
  · simpa [u3, us, fromS, wfromS, readyS, toS, wtoS, dueS] using q38
theorem t_legF (hw : Wd σ κ τ μ z w) {i0 j0 v : Nat} (hi : i0 < 120) (hj : j0 < 3) : ∃ w', pst 9 29 (nI (3 * i0 + j0)) (nI v) w = some (.inl (), w') ∧ Wd σ κ (us τ 10 i0 (3 * j0 + 2) v) (μ) z w' := by
  refine hw.setA9 rfl (show (3 * i0 + j0) < 360 by omega) ?_
  have h := hw.mr
  obtain ⟨q1, q2, q3, q4, q5, q6, q7, q8, q9, q10, q11, q12, q13, q14, q15, q16, q17, q18, q19, q20, q21, q22, q23, q24, q25, q26, q27, q28, q29, q30, q31, q32, q33, q34, q35, q36, q37, q38⟩ := h
  refine ⟨?_, ?_, ?_, ?_, ?_, ?_, ?_, ?_, ?_, ?_, ?_, ?_, ?_, ?_, ?_, ?_, ?_, ?_, ?_, ?_, ?_, ?_, ?_, ?_, ?_, ?_, ?_, ?_, ?_, ?_, ?_, ?_, ?_, ?_, ?_, ?_, ?_, ?_⟩
  · simpa [u3, us, fromS, wfromS, readyS, toS, wtoS, dueS] using q1
  · simpa [u3, us, fromS, wfromS, readyS, toS, wtoS, dueS] using q2
  · simpa [u3, us, fromS, wfromS, readyS, toS, wtoS, dueS] using q3
  · simpa [u3, us, fromS, wfromS, readyS, toS, wtoS, dueS] using q4
  · simpa [u3, us, fromS, wfromS, readyS, toS, wtoS, dueS] using q5
  · simpa [u3, us, fromS, wfromS, readyS, toS, wtoS, dueS] using q6
  · simpa [u3, us, fromS, wfromS, readyS, toS, wtoS, dueS] using q7
  · simpa [u3, us, fromS, wfromS, readyS, toS, wtoS, dueS] using q8
  · simpa [u3, us, fromS, wfromS, readyS, toS, wtoS, dueS] using q9
  · simpa [u3, us, fromS, wfromS, readyS, toS, wtoS, dueS] using q10
  · simpa [u3, us, fromS, wfromS, readyS, toS, wtoS, dueS] using q11
  · simpa [u3, us, fromS, wfromS, readyS, toS, wtoS, dueS] using q12
  · simpa [u3, us, fromS, wfromS, readyS, toS, wtoS, dueS] using q13
  · simpa [u3, us, fromS, wfromS, readyS, toS, wtoS, dueS] using q14
  · simpa [u3, us, fromS, wfromS, readyS, toS, wtoS, dueS] using q15
  · simpa [u3, us, fromS, wfromS, readyS, toS, wtoS, dueS] using q16
  · simpa [u3, us, fromS, wfromS, readyS, toS, wtoS, dueS] using q17
  · simpa [u3, us, fromS, wfromS, readyS, toS, wtoS, dueS] using q18
  · simpa [u3, us, fromS, wfromS, readyS, toS, wtoS, dueS] using q19
  · simpa [u3, us, fromS, wfromS, readyS, toS, wtoS, dueS] using q20
  · simpa [u3, us, fromS, wfromS, readyS, toS, wtoS, dueS] using q21
  · simpa [u3, us, fromS, wfromS, readyS, toS, wtoS, dueS] using q22
  · simpa [u3, us, fromS, wfromS, readyS, toS, wtoS, dueS] using q23
  · simpa [u3, us, fromS, wfromS, readyS, toS, wtoS, dueS] using q24
  · simpa [u3, us, fromS, wfromS, readyS, toS, wtoS, dueS] using q25
  · simpa [u3, us, fromS, wfromS, readyS, toS, wtoS, dueS] using q26
  · simpa [u3, us, fromS, wfromS, readyS, toS, wtoS, dueS] using q27
  · intro w i hc
    have q := q28 w i hc
    by_cases e : w = i0 ∧ i = j0
    · obtain ⟨rfl, rfl⟩ := e
      unfold u3 us
      first
        | (rw [if_pos ⟨rfl, rfl, rfl⟩, if_pos ⟨rfl, rfl, rfl⟩]; done)
        | (rw [if_neg (fun h => absurd h.2.1 (by decide)), if_neg (fun h => absurd h.2.2 (by omega))]; exact q)
    · have e2 : ¬ (3 * w + i = 3 * i0 + j0) := by omega
      unfold u3 us
      rw [if_neg (fun h => e2 h.2.2), if_neg (fun h => e (by have := h.2.1; have := h.2.2; omega))]
      exact q
  · intro w i hc
    have q := q29 w i hc
    by_cases e : w = i0 ∧ i = j0
    · obtain ⟨rfl, rfl⟩ := e
      unfold u3 us
      first
        | (rw [if_pos ⟨rfl, rfl, rfl⟩, if_pos ⟨rfl, rfl, rfl⟩]; done)
        | (rw [if_neg (fun h => absurd h.2.1 (by decide)), if_neg (fun h => absurd h.2.2 (by omega))]; exact q)
    · have e2 : ¬ (3 * w + i = 3 * i0 + j0) := by omega
      unfold u3 us
      rw [if_neg (fun h => e2 h.2.2), if_neg (fun h => e (by have := h.2.1; have := h.2.2; omega))]
      exact q
  · intro w i hc
    have q := q30 w i hc
    by_cases e : w = i0 ∧ i = j0
    · obtain ⟨rfl, rfl⟩ := e
      unfold u3 us
      first
        | (rw [if_pos ⟨rfl, rfl, rfl⟩, if_pos ⟨rfl, rfl, rfl⟩]; done)
        | (rw [if_neg (fun h => absurd h.2.1 (by decide)), if_neg (fun h => absurd h.2.2 (by omega))]; exact q)
    · have e2 : ¬ (3 * w + i = 3 * i0 + j0) := by omega
      unfold u3 us
      rw [if_neg (fun h => e2 h.2.2), if_neg (fun h => e (by have := h.2.1; have := h.2.2; omega))]
      exact q
  · simpa [u3, us, fromS, wfromS, readyS, toS, wtoS, dueS] using q31
  · simpa [u3, us, fromS, wfromS, readyS, toS, wtoS, dueS] using q32
  · simpa [u3, us, fromS, wfromS, readyS, toS, wtoS, dueS] using q33
  · simpa [u3, us, fromS, wfromS, readyS, toS, wtoS, dueS] using q34
  · simpa [u3, us, fromS, wfromS, readyS, toS, wtoS, dueS] using q35
  · simpa [u3, us, fromS, wfromS, readyS, toS, wtoS, dueS] using q36
  · simpa [u3, us, fromS, wfromS, readyS, toS, wtoS, dueS] using q37
  · simpa [u3, us, fromS, wfromS, readyS, toS, wtoS, dueS] using q38
theorem t_early (hw : Wd σ κ τ μ z w) {i v : Nat} (hi : i < 640) : ∃ w', pst 9 30 (nI i) (nI v) w = some (.inl (), w') ∧ Wd σ κ (τ) (us μ 0 i 0 v) z w' := by
  refine hw.setA9 rfl (show i < 640 by omega) ?_
  have h := hw.mr
  obtain ⟨q1, q2, q3, q4, q5, q6, q7, q8, q9, q10, q11, q12, q13, q14, q15, q16, q17, q18, q19, q20, q21, q22, q23, q24, q25, q26, q27, q28, q29, q30, q31, q32, q33, q34, q35, q36, q37, q38⟩ := h
  refine ⟨?_, ?_, ?_, ?_, ?_, ?_, ?_, ?_, ?_, ?_, ?_, ?_, ?_, ?_, ?_, ?_, ?_, ?_, ?_, ?_, ?_, ?_, ?_, ?_, ?_, ?_, ?_, ?_, ?_, ?_, ?_, ?_, ?_, ?_, ?_, ?_, ?_, ?_⟩
  · simpa [u3, us, fromS, wfromS, readyS, toS, wtoS, dueS] using q1
  · simpa [u3, us, fromS, wfromS, readyS, toS, wtoS, dueS] using q2
  · simpa [u3, us, fromS, wfromS, readyS, toS, wtoS, dueS] using q3
  · simpa [u3, us, fromS, wfromS, readyS, toS, wtoS, dueS] using q4
  · simpa [u3, us, fromS, wfromS, readyS, toS, wtoS, dueS] using q5
  · simpa [u3, us, fromS, wfromS, readyS, toS, wtoS, dueS] using q6
  · simpa [u3, us, fromS, wfromS, readyS, toS, wtoS, dueS] using q7
  · simpa [u3, us, fromS, wfromS, readyS, toS, wtoS, dueS] using q8
  · simpa [u3, us, fromS, wfromS, readyS, toS, wtoS, dueS] using q9
  · simpa [u3, us, fromS, wfromS, readyS, toS, wtoS, dueS] using q10
  · simpa [u3, us, fromS, wfromS, readyS, toS, wtoS, dueS] using q11
  · simpa [u3, us, fromS, wfromS, readyS, toS, wtoS, dueS] using q12
  · simpa [u3, us, fromS, wfromS, readyS, toS, wtoS, dueS] using q13
  · simpa [u3, us, fromS, wfromS, readyS, toS, wtoS, dueS] using q14
  · simpa [u3, us, fromS, wfromS, readyS, toS, wtoS, dueS] using q15
  · simpa [u3, us, fromS, wfromS, readyS, toS, wtoS, dueS] using q16
  · simpa [u3, us, fromS, wfromS, readyS, toS, wtoS, dueS] using q17
  · simpa [u3, us, fromS, wfromS, readyS, toS, wtoS, dueS] using q18
  · simpa [u3, us, fromS, wfromS, readyS, toS, wtoS, dueS] using q19
  · simpa [u3, us, fromS, wfromS, readyS, toS, wtoS, dueS] using q20
  · simpa [u3, us, fromS, wfromS, readyS, toS, wtoS, dueS] using q21
  · simpa [u3, us, fromS, wfromS, readyS, toS, wtoS, dueS] using q22
  · simpa [u3, us, fromS, wfromS, readyS, toS, wtoS, dueS] using q23
  · simpa [u3, us, fromS, wfromS, readyS, toS, wtoS, dueS] using q24
  · simpa [u3, us, fromS, wfromS, readyS, toS, wtoS, dueS] using q25
  · simpa [u3, us, fromS, wfromS, readyS, toS, wtoS, dueS] using q26
  · simpa [u3, us, fromS, wfromS, readyS, toS, wtoS, dueS] using q27
  · simpa [u3, us, fromS, wfromS, readyS, toS, wtoS, dueS] using q28
  · simpa [u3, us, fromS, wfromS, readyS, toS, wtoS, dueS] using q29
  · simpa [u3, us, fromS, wfromS, readyS, toS, wtoS, dueS] using q30
  · intro n
    have q := q31 n
    simp only [u3, us] at *; (repeat' split) <;> first | rfl | assumption | omega | (exfalso; omega) | simp_all
  · simpa [u3, us, fromS, wfromS, readyS, toS, wtoS, dueS] using q32
  · simpa [u3, us, fromS, wfromS, readyS, toS, wtoS, dueS] using q33
  · simpa [u3, us, fromS, wfromS, readyS, toS, wtoS, dueS] using q34
  · simpa [u3, us, fromS, wfromS, readyS, toS, wtoS, dueS] using q35
  · simpa [u3, us, fromS, wfromS, readyS, toS, wtoS, dueS] using q36
  · simpa [u3, us, fromS, wfromS, readyS, toS, wtoS, dueS] using q37
  · simpa [u3, us, fromS, wfromS, readyS, toS, wtoS, dueS] using q38
theorem t_few (hw : Wd σ κ τ μ z w) {i v : Nat} (hi : i < 640) : ∃ w', pst 9 31 (nI i) (nI v) w = some (.inl (), w') ∧ Wd σ κ (τ) (us μ 1 i 0 v) z w' := by
  refine hw.setA9 rfl (show i < 640 by omega) ?_
  have h := hw.mr
  obtain ⟨q1, q2, q3, q4, q5, q6, q7, q8, q9, q10, q11, q12, q13, q14, q15, q16, q17, q18, q19, q20, q21, q22, q23, q24, q25, q26, q27, q28, q29, q30, q31, q32, q33, q34, q35, q36, q37, q38⟩ := h
  refine ⟨?_, ?_, ?_, ?_, ?_, ?_, ?_, ?_, ?_, ?_, ?_, ?_, ?_, ?_, ?_, ?_, ?_, ?_, ?_, ?_, ?_, ?_, ?_, ?_, ?_, ?_, ?_, ?_, ?_, ?_, ?_, ?_, ?_, ?_, ?_, ?_, ?_, ?_⟩
  · simpa [u3, us, fromS, wfromS, readyS, toS, wtoS, dueS] using q1
  · simpa [u3, us, fromS, wfromS, readyS, toS, wtoS, dueS] using q2
  · simpa [u3, us, fromS, wfromS, readyS, toS, wtoS, dueS] using q3
  · simpa [u3, us, fromS, wfromS, readyS, toS, wtoS, dueS] using q4
  · simpa [u3, us, fromS, wfromS, readyS, toS, wtoS, dueS] using q5
  · simpa [u3, us, fromS, wfromS, readyS, toS, wtoS, dueS] using q6
  · simpa [u3, us, fromS, wfromS, readyS, toS, wtoS, dueS] using q7
  · simpa [u3, us, fromS, wfromS, readyS, toS, wtoS, dueS] using q8
  · simpa [u3, us, fromS, wfromS, readyS, toS, wtoS, dueS] using q9
  · simpa [u3, us, fromS, wfromS, readyS, toS, wtoS, dueS] using q10
  · simpa [u3, us, fromS, wfromS, readyS, toS, wtoS, dueS] using q11
  · simpa [u3, us, fromS, wfromS, readyS, toS, wtoS, dueS] using q12
  · simpa [u3, us, fromS, wfromS, readyS, toS, wtoS, dueS] using q13
  · simpa [u3, us, fromS, wfromS, readyS, toS, wtoS, dueS] using q14
  · simpa [u3, us, fromS, wfromS, readyS, toS, wtoS, dueS] using q15
  · simpa [u3, us, fromS, wfromS, readyS, toS, wtoS, dueS] using q16
  · simpa [u3, us, fromS, wfromS, readyS, toS, wtoS, dueS] using q17
  · simpa [u3, us, fromS, wfromS, readyS, toS, wtoS, dueS] using q18
  · simpa [u3, us, fromS, wfromS, readyS, toS, wtoS, dueS] using q19
  · simpa [u3, us, fromS, wfromS, readyS, toS, wtoS, dueS] using q20
  · simpa [u3, us, fromS, wfromS, readyS, toS, wtoS, dueS] using q21
  · simpa [u3, us, fromS, wfromS, readyS, toS, wtoS, dueS] using q22
  · simpa [u3, us, fromS, wfromS, readyS, toS, wtoS, dueS] using q23
  · simpa [u3, us, fromS, wfromS, readyS, toS, wtoS, dueS] using q24
  · simpa [u3, us, fromS, wfromS, readyS, toS, wtoS, dueS] using q25
  · simpa [u3, us, fromS, wfromS, readyS, toS, wtoS, dueS] using q26
  · simpa [u3, us, fromS, wfromS, readyS, toS, wtoS, dueS] using q27
  · simpa [u3, us, fromS, wfromS, readyS, toS, wtoS, dueS] using q28
  · simpa [u3, us, fromS, wfromS, readyS, toS, wtoS, dueS] using q29
  · simpa [u3, us, fromS, wfromS, readyS, toS, wtoS, dueS] using q30
  · simpa [u3, us, fromS, wfromS, readyS, toS, wtoS, dueS] using q31
  · intro n
    have q := q32 n
    simp only [u3, us] at *; (repeat' split) <;> first | rfl | assumption | omega | (exfalso; omega) | simp_all
  · simpa [u3, us, fromS, wfromS, readyS, toS, wtoS, dueS] using q33
  · simpa [u3, us, fromS, wfromS, readyS, toS, wtoS, dueS] using q34
  · simpa [u3, us, fromS, wfromS, readyS, toS, wtoS, dueS] using q35
  · simpa [u3, us, fromS, wfromS, readyS, toS, wtoS, dueS] using q36
  · simpa [u3, us, fromS, wfromS, readyS, toS, wtoS, dueS] using q37
  · simpa [u3, us, fromS, wfromS, readyS, toS, wtoS, dueS] using q38
theorem t_gives (hw : Wd σ κ τ μ z w) {i v : Nat} (hi : i < 60) : ∃ w', pst 9 37 (nI i) (nI v) w = some (.inl (), w') ∧ Wd σ κ (τ) (us μ 3 i 0 v) z w' := by
  refine hw.setA9 rfl (show i < 60 by omega) ?_
  have h := hw.mr
  obtain ⟨q1, q2, q3, q4, q5, q6, q7, q8, q9, q10, q11, q12, q13, q14, q15, q16, q17, q18, q19, q20, q21, q22, q23, q24, q25, q26, q27, q28, q29, q30, q31, q32, q33, q34, q35, q36, q37, q38⟩ := h
  refine ⟨?_, ?_, ?_, ?_, ?_, ?_, ?_, ?_, ?_, ?_, ?_, ?_, ?_, ?_, ?_, ?_, ?_, ?_, ?_, ?_, ?_, ?_, ?_, ?_, ?_, ?_, ?_, ?_, ?_, ?_, ?_, ?_, ?_, ?_, ?_, ?_, ?_, ?_⟩
  · simpa [u3, us, fromS, wfromS, readyS, toS, wtoS, dueS] using q1
  · simpa [u3, us, fromS, wfromS, readyS, toS, wtoS, dueS] using q2
  · simpa [u3, us, fromS, wfromS, readyS, toS, wtoS, dueS] using q3
  · simpa [u3, us, fromS, wfromS, readyS, toS, wtoS, dueS] using q4
  · simpa [u3, us, fromS, wfromS, readyS, toS, wtoS, dueS] using q5
  · simpa [u3, us, fromS, wfromS, readyS, toS, wtoS, dueS] using q6
  · simpa [u3, us, fromS, wfromS, readyS, toS, wtoS, dueS] using q7
  · simpa [u3, us, fromS, wfromS, readyS, toS, wtoS, dueS] using q8
  · simpa [u3, us, fromS, wfromS, readyS, toS, wtoS, dueS] using q9
  · simpa [u3, us, fromS, wfromS, readyS, toS, wtoS, dueS] using q10
  · simpa [u3, us, fromS, wfromS, readyS, toS, wtoS, dueS] using q11
  · simpa [u3, us, fromS, wfromS, readyS, toS, wtoS, dueS] using q12
  · simpa [u3, us, fromS, wfromS, readyS, toS, wtoS, dueS] using q13
  · simpa [u3, us, fromS, wfromS, readyS, toS, wtoS, dueS] using q14
  · simpa [u3, us, fromS, wfromS, readyS, toS, wtoS, dueS] using q15
  · simpa [u3, us, fromS, wfromS, readyS, toS, wtoS, dueS] using q16
  · simpa [u3, us, fromS, wfromS, readyS, toS, wtoS, dueS] using q17
  · simpa [u3, us, fromS, wfromS, readyS, toS, wtoS, dueS] using q18
  · simpa [u3, us, fromS, wfromS, readyS, toS, wtoS, dueS] using q19
  · simpa [u3, us, fromS, wfromS, readyS, toS, wtoS, dueS] using q20
  · simpa [u3, us, fromS, wfromS, readyS, toS, wtoS, dueS] using q21
  · simpa [u3, us, fromS, wfromS, readyS, toS, wtoS, dueS] using q22
  · simpa [u3, us, fromS, wfromS, readyS, toS, wtoS, dueS] using q23
  · simpa [u3, us, fromS, wfromS, readyS, toS, wtoS, dueS] using q24
  · simpa [u3, us, fromS, wfromS, readyS, toS, wtoS, dueS] using q25
  · simpa [u3, us, fromS, wfromS, readyS, toS, wtoS, dueS] using q26
  · simpa [u3, us, fromS, wfromS, readyS, toS, wtoS, dueS] using q27
  · simpa [u3, us, fromS, wfromS, readyS, toS, wtoS, dueS] using q28
  · simpa [u3, us, fromS, wfromS, readyS, toS, wtoS, dueS] using q29
  · simpa [u3, us, fromS, wfromS, readyS, toS, wtoS, dueS] using q30
  · simpa [u3, us, fromS, wfromS, readyS, toS, wtoS, dueS] using q31
  · simpa [u3, us, fromS, wfromS, readyS, toS, wtoS, dueS] using q32
  · simpa [u3, us, fromS, wfromS, readyS, toS, wtoS, dueS] using q33
  · simpa [u3, us, fromS, wfromS, readyS, toS, wtoS, dueS] using q34
  · simpa [u3, us, fromS, wfromS, readyS, toS, wtoS, dueS] using q35
  · simpa [u3, us, fromS, wfromS, readyS, toS, wtoS, dueS] using q36
  · simpa [u3, us, fromS, wfromS, readyS, toS, wtoS, dueS] using q37
  · intro b
    have q := q38 b
    simp only [u3, us] at *; (repeat' split) <;> first | rfl | assumption | omega | (exfalso; omega) | simp_all
theorem t_has1 (hw : Wd σ κ τ μ z w) {i T : Nat} (hi : i < 120) : ∃ w', pst 9 23 (nI i) 1 w = some (.inl (), w') ∧ Wd σ κ (us τ 9 i 5 (T + 1)) (μ) z w' := by
  refine hw.setA9 rfl (show i < 120 from hi) ?_
  have h := hw.mr
  obtain ⟨q1, q2, q3, q4, q5, q6, q7, q8, q9, q10, q11, q12, q13, q14, q15, q16, q17, q18, q19, q20, q21, q22, q23, q24, q25, q26, q27, q28, q29, q30, q31, q32, q33, q34, q35, q36, q37, q38⟩ := h
  refine ⟨?_, ?_, ?_, ?_, ?_, ?_, ?_, ?_, ?_, ?_, ?_, ?_, ?_, ?_, ?_, ?_, ?_, ?_, ?_, ?_, ?_, ?_, ?_, ?_, ?_, ?_, ?_, ?_, ?_, ?_, ?_, ?_, ?_, ?_, ?_, ?_, ?_, ?_⟩
  · simpa [u3, us, fromS, wfromS, readyS, toS, wtoS, dueS] using q1
  · simpa [u3, us, fromS, wfromS, readyS, toS, wtoS, dueS] using q2
  · simpa [u3, us, fromS, wfromS, readyS, toS, wtoS, dueS] using q3
  · simpa [u3, us, fromS, wfromS, readyS, toS, wtoS, dueS] using q4
  · simpa [u3, us, fromS, wfromS, readyS, toS, wtoS, dueS] using q5
  · simpa [u3, us, fromS, wfromS, readyS, toS, wtoS, dueS] using q6
  · simpa [u3, us, fromS, wfromS, readyS, toS, wtoS, dueS] using q7
  · simpa [u3, us, fromS, wfromS, readyS, toS, wtoS, dueS] using q8
  · simpa [u3, us, fromS, wfromS, readyS, toS, wtoS, dueS] using q9
  · simpa [u3, us, fromS, wfromS, readyS, toS, wtoS, dueS] using q10
  · simpa [u3, us, fromS, wfromS, readyS, toS, wtoS, dueS] using q11
  · simpa [u3, us, fromS, wfromS, readyS, toS, wtoS, dueS] using q12
  · simpa [u3, us, fromS, wfromS, readyS, toS, wtoS, dueS] using q13
  · simpa [u3, us, fromS, wfromS, readyS, toS, wtoS, dueS] using q14
  · simpa [u3, us, fromS, wfromS, readyS, toS, wtoS, dueS] using q15
  · simpa [u3, us, fromS, wfromS, readyS, toS, wtoS, dueS] using q16
  · simpa [u3, us, fromS, wfromS, readyS, toS, wtoS, dueS] using q17
  · simpa [u3, us, fromS, wfromS, readyS, toS, wtoS, dueS] using q18
  · simpa [u3, us, fromS, wfromS, readyS, toS, wtoS, dueS] using q19
  · simpa [u3, us, fromS, wfromS, readyS, toS, wtoS, dueS] using q20
  · simpa [u3, us, fromS, wfromS, readyS, toS, wtoS, dueS] using q21
  · simpa [u3, us, fromS, wfromS, readyS, toS, wtoS, dueS] using q22
  · intro w
    have q := q23 w
    (by_cases e : w = i) <;> first | (simp [u3, us, e]; done) | (simpa [u3, us, e] using q) | (subst e; simp [u3, us]; rfl) | (subst e; simpa [u3, us] using q) | (refine q ?_; simpa [us] using hc) | (rw [show us τ 9 i 5 (T + 1) 9 w 4 = τ 9 w 4 by simp [us]]; exact q (by simpa [us] using hc))
  · intro w
    have q := q24 w
    (by_cases e : w = i) <;> first | (simp [u3, us, e]; done) | (simpa [u3, us, e] using q) | (subst e; simp [u3, us]; rfl) | (subst e; simpa [u3, us] using q) | (refine q ?_; simpa [us] using hc) | (rw [show us τ 9 i 5 (T + 1) 9 w 4 = τ 9 w 4 by simp [us]]; exact q (by simpa [us] using hc))
  · intro w
    have q := q25 w
    (by_cases e : w = i) <;> first | (simp [u3, us, e]; done) | (simpa [u3, us, e] using q) | (subst e; simp [u3, us]; rfl) | (subst e; simpa [u3, us] using q) | (refine q ?_; simpa [us] using hc) | (rw [show us τ 9 i 5 (T + 1) 9 w 4 = τ 9 w 4 by simp [us]]; exact q (by simpa [us] using hc))
  · intro w
    have q := q26 w
    (by_cases e : w = i) <;> first | (simp [u3, us, e]; done) | (simpa [u3, us, e] using q) | (subst e; simp [u3, us]; rfl) | (subst e; simpa [u3, us] using q) | (refine q ?_; simpa [us] using hc) | (rw [show us τ 9 i 5 (T + 1) 9 w 4 = τ 9 w 4 by simp [us]]; exact q (by simpa [us] using hc))
  · intro w hc
    have q := q27 w
    (by_cases e : w = i) <;> first | (simp [u3, us, e]; done) | (simpa [u3, us, e] using q) | (subst e; simp [u3, us]; rfl) | (subst e; simpa [u3, us] using q) | (refine q ?_; simpa [us] using hc) | (rw [show us τ 9 i 5 (T + 1) 9 w 4 = τ 9 w 4 by simp [us]]; exact q (by simpa [us] using hc))
  · simpa [u3, us, fromS, wfromS, readyS, toS, wtoS, dueS] using q28
  · simpa [u3, us, fromS, wfromS, readyS, toS, wtoS, dueS] using q29
  · simpa [u3, us, fromS, wfromS, readyS, toS, wtoS, dueS] using q30
  · simpa [u3, us, fromS, wfromS, readyS, toS, wtoS, dueS] using q31
  · simpa [u3, us, fromS, wfromS, readyS, toS, wtoS, dueS] using q32
  · simpa [u3, us, fromS, wfromS, readyS, toS, wtoS, dueS] using q33
  · simpa [u3, us, fromS, wfromS, readyS, toS, wtoS, dueS] using q34
  · simpa [u3, us, fromS, wfromS, readyS, toS, wtoS, dueS] using q35
  · simpa [u3, us, fromS, wfromS, readyS, toS, wtoS, dueS] using q36
  · simpa [u3, us, fromS, wfromS, readyS, toS, wtoS, dueS] using q37
  · simpa [u3, us, fromS, wfromS, readyS, toS, wtoS, dueS] using q38
theorem t_has0 (hw : Wd σ κ τ μ z w) {i : Nat} (hi : i < 120) : ∃ w', pst 9 23 (nI i) 0 w = some (.inl (), w') ∧ Wd σ κ (us τ 9 i 5 0) (μ) z w' := by
  refine hw.setA9 rfl (show i < 120 from hi) ?_
  have h := hw.mr
  obtain ⟨q1, q2, q3, q4, q5, q6, q7, q8, q9, q10, q11, q12, q13, q14, q15, q16, q17, q18, q19, q20, q21, q22, q23, q24, q25, q26, q27, q28, q29, q30, q31, q32, q33, q34, q35, q36, q37, q38⟩ := h
  refine ⟨?_, ?_, ?_, ?_, ?_, ?_, ?_, ?_, ?_, ?_, ?_, ?_, ?_, ?_, ?_, ?_, ?_, ?_, ?_, ?_, ?_, ?_, ?_, ?_, ?_, ?_, ?_, ?_, ?_, ?_, ?_, ?_, ?_, ?_, ?_, ?_, ?_, ?_⟩
  · simpa [u3, us, fromS, wfromS, readyS, toS, wtoS, dueS] using q1
  · simpa [u3, us, fromS, wfromS, readyS, toS, wtoS, dueS] using q2
  · simpa [u3, us, fromS, wfromS, readyS, toS, wtoS, dueS] using q3
  · simpa [u3, us, fromS, wfromS, readyS, toS, wtoS, dueS] using q4
  · simpa [u3, us, fromS, wfromS, readyS, toS, wtoS, dueS] using q5
  · simpa [u3, us, fromS, wfromS, readyS, toS, wtoS, dueS] using q6
  · simpa [u3, us, fromS, wfromS, readyS, toS, wtoS, dueS] using q7
  · simpa [u3, us, fromS, wfromS, readyS, toS, wtoS, dueS] using q8
  · simpa [u3, us, fromS, wfromS, readyS, toS, wtoS, dueS] using q9
  · simpa [u3, us, fromS, wfromS, readyS, toS, wtoS, dueS] using q10
  · simpa [u3, us, fromS, wfromS, readyS, toS, wtoS, dueS] using q11
  · simpa [u3, us, fromS, wfromS, readyS, toS, wtoS, dueS] using q12
  · simpa [u3, us, fromS, wfromS, readyS, toS, wtoS, dueS] using q13
  · simpa [u3, us, fromS, wfromS, readyS, toS, wtoS, dueS] using q14
  · simpa [u3, us, fromS, wfromS, readyS, toS, wtoS, dueS] using q15
  · simpa [u3, us, fromS, wfromS, readyS, toS, wtoS, dueS] using q16
  · simpa [u3, us, fromS, wfromS, readyS, toS, wtoS, dueS] using q17
  · simpa [u3, us, fromS, wfromS, readyS, toS, wtoS, dueS] using q18
  · simpa [u3, us, fromS, wfromS, readyS, toS, wtoS, dueS] using q19
  · simpa [u3, us, fromS, wfromS, readyS, toS, wtoS, dueS] using q20
  · simpa [u3, us, fromS, wfromS, readyS, toS, wtoS, dueS] using q21
  · simpa [u3, us, fromS, wfromS, readyS, toS, wtoS, dueS] using q22
  · intro w
    have q := q23 w
    (by_cases e : w = i) <;> first | (simp [u3, us, e]; done) | (simpa [u3, us, e] using q) | (subst e; simp [u3, us]; rfl) | (subst e; simpa [u3, us] using q) | (refine q ?_; simpa [us] using hc) | (rw [show us τ 9 i 5 0 9 w 4 = τ 9 w 4 by simp [us]]; exact q (by simpa [us] using hc))
  · intro w
    have q := q24 w
    (by_cases e : w = i) <;> first | (simp [u3, us, e]; done) | (simpa [u3, us, e] using q) | (subst e; simp [u3, us]; rfl) | (subst e; simpa [u3, us] using q) | (refine q ?_; simpa [us] using hc) | (rw [show us τ 9 i 5 0 9 w 4 = τ 9 w 4 by simp [us]]; exact q (by simpa [us] using hc))
  · intro w
    have q := q25 w
    (by_cases e : w = i) <;> first | (simp [u3, us, e]; done) | (simpa [u3, us, e] using q) | (subst e; simp [u3, us]; rfl) | (subst e; simpa [u3, us] using q) | (refine q ?_; simpa [us] using hc) | (rw [show us τ 9 i 5 0 9 w 4 = τ 9 w 4 by simp [us]]; exact q (by simpa [us] using hc))
  · intro w
    have q := q26 w
    (by_cases e : w = i) <;> first | (simp [u3, us, e]; done) | (simpa [u3, us, e] using q) | (subst e; simp [u3, us]; rfl) | (subst e; simpa [u3, us] using q) | (refine q ?_; simpa [us] using hc) | (rw [show us τ 9 i 5 0 9 w 4 = τ 9 w 4 by simp [us]]; exact q (by simpa [us] using hc))
  · intro w hc
    have q := q27 w
    (by_cases e : w = i) <;> first | (simp [u3, us, e]; done) | (simpa [u3, us, e] using q) | (subst e; simp [u3, us]; rfl) | (subst e; simpa [u3, us] using q) | (refine q ?_; simpa [us] using hc) | (rw [show us τ 9 i 5 0 9 w 4 = τ 9 w 4 by simp [us]]; exact q (by simpa [us] using hc))
  · simpa [u3, us, fromS, wfromS, readyS, toS, wtoS, dueS] using q28
  · simpa [u3, us, fromS, wfromS, readyS, toS, wtoS, dueS] using q29
  · simpa [u3, us, fromS, wfromS, readyS, toS, wtoS, dueS] using q30
  · simpa [u3, us, fromS, wfromS, readyS, toS, wtoS, dueS] using q31
  · simpa [u3, us, fromS, wfromS, readyS, toS, wtoS, dueS] using q32
  · simpa [u3, us, fromS, wfromS, readyS, toS, wtoS, dueS] using q33
  · simpa [u3, us, fromS, wfromS, readyS, toS, wtoS, dueS] using q34
  · simpa [u3, us, fromS, wfromS, readyS, toS, wtoS, dueS] using q35
  · simpa [u3, us, fromS, wfromS, readyS, toS, wtoS, dueS] using q36
  · simpa [u3, us, fromS, wfromS, readyS, toS, wtoS, dueS] using q37
  · simpa [u3, us, fromS, wfromS, readyS, toS, wtoS, dueS] using q38
theorem t_standsN (hw : Wd σ κ τ μ z w) {i : Nat} (hi : i < 120) : ∃ w', pst 9 25 (nI i) (-1) w = some (.inl (), w') ∧ Wd σ κ (us (us τ 9 i 3 0) 9 i 4 0) (μ) z w' := by
  refine hw.setA9 rfl (show i < 120 from hi) ?_
  have h := hw.mr
  obtain ⟨q1, q2, q3, q4, q5, q6, q7, q8, q9, q10, q11, q12, q13, q14, q15, q16, q17, q18, q19, q20, q21, q22, q23, q24, q25, q26, q27, q28, q29, q30, q31, q32, q33, q34, q35, q36, q37, q38⟩ := h
  refine ⟨?_, ?_, ?_, ?_, ?_, ?_, ?_, ?_, ?_, ?_, ?_, ?_, ?_, ?_, ?_, ?_, ?_, ?_, ?_, ?_, ?_, ?_, ?_, ?_, ?_, ?_, ?_, ?_, ?_, ?_, ?_, ?_, ?_, ?_, ?_, ?_, ?_, ?_⟩
  · simpa [u3, us, fromS, wfromS, readyS, toS, wtoS, dueS] using q1
  · simpa [u3, us, fromS, wfromS, readyS, toS, wtoS, dueS] using q2
  · simpa [u3, us, fromS, wfromS, readyS, toS, wtoS, dueS] using q3
  · simpa [u3, us, fromS, wfromS, readyS, toS, wtoS, dueS] using q4
  · simpa [u3, us, fromS, wfromS, readyS, toS, wtoS, dueS] using q5
  · simpa [u3, us, fromS, wfromS, readyS, toS, wtoS, dueS] using q6
  · simpa [u3, us, fromS, wfromS, readyS, toS, wtoS, dueS] using q7
  · simpa [u3, us, fromS, wfromS, readyS, toS, wtoS, dueS] using q8
  · simpa [u3, us, fromS, wfromS, readyS, toS, wtoS, dueS] using q9
  · simpa [u3, us, fromS, wfromS, readyS, toS, wtoS, dueS] using q10
  · simpa [u3, us, fromS, wfromS, readyS, toS, wtoS, dueS] using q11
  · simpa [u3, us, fromS, wfromS, readyS, toS, wtoS, dueS] using q12
  · simpa [u3, us, fromS, wfromS, readyS, toS, wtoS, dueS] using q13
  · simpa [u3, us, fromS, wfromS, readyS, toS, wtoS, dueS] using q14
  · simpa [u3, us, fromS, wfromS, readyS, toS, wtoS, dueS] using q15
  · simpa [u3, us, fromS, wfromS, readyS, toS, wtoS, dueS] using q16
  · simpa [u3, us, fromS, wfromS, readyS, toS, wtoS, dueS] using q17
  · simpa [u3, us, fromS, wfromS, readyS, toS, wtoS, dueS] using q18
  · simpa [u3, us, fromS, wfromS, readyS, toS, wtoS, dueS] using q19
  · simpa [u3, us, fromS, wfromS, readyS, toS, wtoS, dueS] using q20
  · simpa [u3, us, fromS, wfromS, readyS, toS, wtoS, dueS] using q21
  · simpa [u3, us, fromS, wfromS, readyS, toS, wtoS, dueS] using q22
  · intro w
    have q := q23 w
    (by_cases e : w = i) <;> first | (simp [u3, us, e]; done) | (simpa [u3, us, e] using q) | (subst e; simp [u3, us, m1]; done) | (subst e; simpa [u3, us] using q) | (exfalso; subst e; simp [us] at hc) | (simp only [u3, us, e] at *; simp_all)
  · intro w
    have q := q24 w
    (by_cases e : w = i) <;> first | (simp [u3, us, e]; done) | (simpa [u3, us, e] using q) | (subst e; simp [u3, us, m1]; done) | (subst e; simpa [u3, us] using q) | (exfalso; subst e; simp [us] at hc) | (simp only [u3, us, e] at *; simp_all)
  · intro w
    have q := q25 w
    (by_cases e : w = i) <;> first | (simp [u3, us, e]; done) | (simpa [u3, us, e] using q) | (subst e; simp [u3, us, m1]; done) | (subst e; simpa [u3, us] using q) | (exfalso; subst e; simp [us] at hc) | (simp only [u3, us, e] at *; simp_all)
  · intro w
    have q := q26 w
    (by_cases e : w = i) <;> first | (simp [u3, us, e]; done) | (simpa [u3, us, e] using q) | (subst e; simp [u3, us, m1]; done) | (subst e; simpa [u3, us] using q) | (exfalso; subst e; simp [us] at hc) | (simp only [u3, us, e] at *; simp_all)
  · intro w hc
    have q := q27 w
    (by_cases e : w = i) <;> first | (simp [u3, us, e]; done) | (simpa [u3, us, e] using q) | (subst e; simp [u3, us, m1]; done) | (subst e; simpa [u3, us] using q) | (exfalso; subst e; simp [us] at hc) | (simp only [u3, us, e] at *; simp_all)
  · simpa [u3, us, fromS, wfromS, readyS, toS, wtoS, dueS] using q28
  · simpa [u3, us, fromS, wfromS, readyS, toS, wtoS, dueS] using q29
  · simpa [u3, us, fromS, wfromS, readyS, toS, wtoS, dueS] using q30
  · simpa [u3, us, fromS, wfromS, readyS, toS, wtoS, dueS] using q31
  · simpa [u3, us, fromS, wfromS, readyS, toS, wtoS, dueS] using q32
  · simpa [u3, us, fromS, wfromS, readyS, toS, wtoS, dueS] using q33
  · simpa [u3, us, fromS, wfromS, readyS, toS, wtoS, dueS] using q34
  · simpa [u3, us, fromS, wfromS, readyS, toS, wtoS, dueS] using q35
  · simpa [u3, us, fromS, wfromS, readyS, toS, wtoS, dueS] using q36
  · simpa [u3, us, fromS, wfromS, readyS, toS, wtoS, dueS] using q37
  · simpa [u3, us, fromS, wfromS, readyS, toS, wtoS, dueS] using q38
theorem t_standsS (hw : Wd σ κ τ μ z w) {i s : Nat} (hi : i < 120) : ∃ w', pst 9 25 (nI i) (nI s) w = some (.inl (), w') ∧ Wd σ κ (us (us τ 9 i 3 (s + 1)) 9 i 4 (eL (w.2.2.2.1 9 26 i))) (μ) z w' := by
  refine hw.setA9 rfl (show i < 120 from hi) ?_
  have h := hw.mr
  obtain ⟨q1, q2, q3, q4, q5, q6, q7, q8, q9, q10, q11, q12, q13, q14, q15, q16, q17, q18, q19, q20, q21, q22, q23, q24, q25, q26, q27, q28, q29, q30, q31, q32, q33, q34, q35, q36, q37, q38⟩ := h
  refine ⟨?_, ?_, ?_, ?_, ?_, ?_, ?_, ?_, ?_, ?_, ?_, ?_, ?_, ?_, ?_, ?_, ?_, ?_, ?_, ?_, ?_, ?_, ?_, ?_, ?_, ?_, ?_, ?_, ?_, ?_, ?_, ?_, ?_, ?_, ?_, ?_, ?_, ?_⟩
  · simpa [u3, us, fromS, wfromS, readyS, toS, wtoS, dueS] using q1
  · simpa [u3, us, fromS, wfromS, readyS, toS, wtoS, dueS] using q2
  · simpa [u3, us, fromS, wfromS, readyS, toS, wtoS, dueS] using q3
  · simpa [u3, us, fromS, wfromS, readyS, toS, wtoS, dueS] using q4
  · simpa [u3, us, fromS, wfromS, readyS, toS, wtoS, dueS] using q5
  · simpa [u3, us, fromS, wfromS, readyS, toS, wtoS, dueS] using q6
  · simpa [u3, us, fromS, wfromS, readyS, toS, wtoS, dueS] using q7
  · simpa [u3, us, fromS, wfromS, readyS, toS, wtoS, dueS] using q8
  · simpa [u3, us, fromS, wfromS, readyS, toS, wtoS, dueS] using q9
  · simpa [u3, us, fromS, wfromS, readyS, toS, wtoS, dueS] using q10
  · simpa [u3, us, fromS, wfromS, readyS, toS, wtoS, dueS] using q11
  · simpa [u3, us, fromS, wfromS, readyS, toS, wtoS, dueS] using q12
  · simpa [u3, us, fromS, wfromS, readyS, toS, wtoS, dueS] using q13
  · simpa [u3, us, fromS, wfromS, readyS, toS, wtoS, dueS] using q14
  · simpa [u3, us, fromS, wfromS, readyS, toS, wtoS, dueS] using q15
  · simpa [u3, us, fromS, wfromS, readyS, toS, wtoS, dueS] using q16
  · simpa [u3, us, fromS, wfromS, readyS, toS, wtoS, dueS] using q17
  · simpa [u3, us, fromS, wfromS, readyS, toS, wtoS, dueS] using q18
  · simpa [u3, us, fromS, wfromS, readyS, toS, wtoS, dueS] using q19
  · simpa [u3, us, fromS, wfromS, readyS, toS, wtoS, dueS] using q20
  · simpa [u3, us, fromS, wfromS, readyS, toS, wtoS, dueS] using q21
  · simpa [u3, us, fromS, wfromS, readyS, toS, wtoS, dueS] using q22
  · intro w'
    have q := q23 w'
    (by_cases e : w' = i) <;> first | (simp [u3, us, e]; done) | (simpa [u3, us, e] using q) | (subst e; simp [u3, us, m1]; done) | (subst e; simpa [u3, us] using q) | (subst e; simp [u3, us]; exact (dL_eL _).symm) | (simp only [u3, us, e] at *; simp_all)
  · intro w'
    have q := q24 w'
    (by_cases e : w' = i) <;> first | (simp [u3, us, e]; done) | (simpa [u3, us, e] using q) | (subst e; simp [u3, us, m1]; done) | (subst e; simpa [u3, us] using q) | (subst e; simp [u3, us]; exact (dL_eL _).symm) | (simp only [u3, us, e] at *; simp_all)
  · intro w'
    have q := q25 w'
    (by_cases e : w' = i) <;> first | (simp [u3, us, e]; done) | (simpa [u3, us, e] using q) | (subst e; simp [u3, us, m1]; done) | (subst e; simpa [u3, us] using q) | (subst e; simp [u3, us]; exact (dL_eL _).symm) | (simp only [u3, us, e] at *; simp_all)
  · intro w'
    have q := q26 w'
    (by_cases e : w' = i) <;> first | (simp [u3, us, e]; done) | (simpa [u3, us, e] using q) | (subst e; simp [u3, us, m1]; done) | (subst e; simpa [u3, us] using q) | (subst e; simp [u3, us]; exact (dL_eL _).symm) | (simp only [u3, us, e] at *; simp_all)
  · intro w' hc
    have q := q27 w'
    (by_cases e : w' = i) <;> first | (simp [u3, us, e]; done) | (simpa [u3, us, e] using q) | (subst e; simp [u3, us, m1]; done) | (subst e; simpa [u3, us] using q) | (subst e; simp [u3, us]; exact (dL_eL _).symm) | (simp only [u3, us, e] at *; simp_all)
  · simpa [u3, us, fromS, wfromS, readyS, toS, wtoS, dueS] using q28
  · simpa [u3, us, fromS, wfromS, readyS, toS, wtoS, dueS] using q29
  · simpa [u3, us, fromS, wfromS, readyS, toS, wtoS, dueS] using q30
  · simpa [u3, us, fromS, wfromS, readyS, toS, wtoS, dueS] using q31
  · simpa [u3, us, fromS, wfromS, readyS, toS, wtoS, dueS] using q32
  · simpa [u3, us, fromS, wfromS, readyS, toS, wtoS, dueS] using q33
  · simpa [u3, us, fromS, wfromS, readyS, toS, wtoS, dueS] using q34
  · simpa [u3, us, fromS, wfromS, readyS, toS, wtoS, dueS] using q35
  · simpa [u3, us, fromS, wfromS, readyS, toS, wtoS, dueS] using q36
  · simpa [u3, us, fromS, wfromS, readyS, toS, wtoS, dueS] using q37
  · simpa [u3, us, fromS, wfromS, readyS, toS, wtoS, dueS] using q38
theorem t_since (hw : Wd σ κ τ μ z w) {i m : Nat} (hi : i < 120) : ∃ w', pst 9 26 (nI i) (nI m) w = some (.inl (), w') ∧ Wd σ κ (us τ 9 i 4 m) (μ) z w' := by
  refine hw.setA9 rfl (show i < 120 from hi) ?_
  have h := hw.mr
  obtain ⟨q1, q2, q3, q4, q5, q6, q7, q8, q9, q10, q11, q12, q13, q14, q15, q16, q17, q18, q19, q20, q21, q22, q23, q24, q25, q26, q27, q28, q29, q30, q31, q32, q33, q34, q35, q36, q37, q38⟩ := h
  refine ⟨?_, ?_, ?_, ?_, ?_, ?_, ?_, ?_, ?_, ?_, ?_, ?_, ?_, ?_, ?_, ?_, ?_, ?_, ?_, ?_, ?_, ?_, ?_, ?_, ?_, ?_, ?_, ?_, ?_, ?_, ?_, ?_, ?_, ?_, ?_, ?_, ?_, ?_⟩
  · simpa [u3, us, fromS, wfromS, readyS, toS, wtoS, dueS] using q1
  · simpa [u3, us, fromS, wfromS, readyS, toS, wtoS, dueS] using q2
  · simpa [u3, us, fromS, wfromS, readyS, toS, wtoS, dueS] using q3
  · simpa [u3, us, fromS, wfromS, readyS, toS, wtoS, dueS] using q4
  · simpa [u3, us, fromS, wfromS, readyS, toS, wtoS, dueS] using q5
  · simpa [u3, us, fromS, wfromS, readyS, toS, wtoS, dueS] using q6
  · simpa [u3, us, fromS, wfromS, readyS, toS, wtoS, dueS] using q7
  · simpa [u3, us, fromS, wfromS, readyS, toS, wtoS, dueS] using q8
  · simpa [u3, us, fromS, wfromS, readyS, toS, wtoS, dueS] using q9
  · simpa [u3, us, fromS, wfromS, readyS, toS, wtoS, dueS] using q10
  · simpa [u3, us, fromS, wfromS, readyS, toS, wtoS, dueS] using q11
  · simpa [u3, us, fromS, wfromS, readyS, toS, wtoS, dueS] using q12
  · simpa [u3, us, fromS, wfromS, readyS, toS, wtoS, dueS] using q13
  · simpa [u3, us, fromS, wfromS, readyS, toS, wtoS, dueS] using q14
  · simpa [u3, us, fromS, wfromS, readyS, toS, wtoS, dueS] using q15
  · simpa [u3, us, fromS, wfromS, readyS, toS, wtoS, dueS] using q16
  · simpa [u3, us, fromS, wfromS, readyS, toS, wtoS, dueS] using q17
  · simpa [u3, us, fromS, wfromS, readyS, toS, wtoS, dueS] using q18
  · simpa [u3, us, fromS, wfromS, readyS, toS, wtoS, dueS] using q19
  · simpa [u3, us, fromS, wfromS, readyS, toS, wtoS, dueS] using q20
  · simpa [u3, us, fromS, wfromS, readyS, toS, wtoS, dueS] using q21
  · simpa [u3, us, fromS, wfromS, readyS, toS, wtoS, dueS] using q22
  · intro w
    have q := q23 w
    (by_cases e : w = i) <;> first | (simp [u3, us, e]; done) | (simpa [u3, us, e] using q) | (subst e; simp [u3, us]; done) | (subst e; simpa [u3, us] using q) | (simp only [u3, us, e] at *; simp_all)
  · intro w
    have q := q24 w
    (by_cases e : w = i) <;> first | (simp [u3, us, e]; done) | (simpa [u3, us, e] using q) | (subst e; simp [u3, us]; done) | (subst e; simpa [u3, us] using q) | (simp only [u3, us, e] at *; simp_all)
  · intro w
    have q := q25 w
    (by_cases e : w = i) <;> first | (simp [u3, us, e]; done) | (simpa [u3, us, e] using q) | (subst e; simp [u3, us]; done) | (subst e; simpa [u3, us] using q) | (simp only [u3, us, e] at *; simp_all)
  · intro w
    have q := q26 w
    (by_cases e : w = i) <;> first | (simp [u3, us, e]; done) | (simpa [u3, us, e] using q) | (subst e; simp [u3, us]; done) | (subst e; simpa [u3, us] using q) | (simp only [u3, us, e] at *; simp_all)
  · intro w hc
    have q := q27 w
    (by_cases e : w = i) <;> first | (simp [u3, us, e]; done) | (simpa [u3, us, e] using q) | (subst e; simp [u3, us]; done) | (subst e; simpa [u3, us] using q) | (simp only [u3, us, e] at *; simp_all)
  · simpa [u3, us, fromS, wfromS, readyS, toS, wtoS, dueS] using q28
  · simpa [u3, us, fromS, wfromS, readyS, toS, wtoS, dueS] using q29
  · simpa [u3, us, fromS, wfromS, readyS, toS, wtoS, dueS] using q30
  · simpa [u3, us, fromS, wfromS, readyS, toS, wtoS, dueS] using q31
  · simpa [u3, us, fromS, wfromS, readyS, toS, wtoS, dueS] using q32
  · simpa [u3, us, fromS, wfromS, readyS, toS, wtoS, dueS] using q33
  · simpa [u3, us, fromS, wfromS, readyS, toS, wtoS, dueS] using q34
  · simpa [u3, us, fromS, wfromS, readyS, toS, wtoS, dueS] using q35
  · simpa [u3, us, fromS, wfromS, readyS, toS, wtoS, dueS] using q36
  · simpa [u3, us, fromS, wfromS, readyS, toS, wtoS, dueS] using q37
  · simpa [u3, us, fromS, wfromS, readyS, toS, wtoS, dueS] using q38
end SET
