/-! the law's loop -/
def LSt (B t0 N M : Nat) (σ : SG) (h : AH) : Prop := ∃ (y : LY) (κ μ : SG) (z : BB) (w : PS), (yB y = B ∧ yt0 y = t0 ∧ yC y 0 ≤ 100 ∧ yC y 1 ≤ 100) ∧ Rep y w h ∧ Wd σ κ σ μ z w ∧ HM μ ∧ (z.1 ≤ N ∧ z.2.1 ≤ M) ∧ INV3 σ
def Mid1 (B t0 N M : Nat) (σ σ' : SG) (h : AH) : Prop := ∃ (y : LY) (κ μ : SG) (z : BB) (w : PS), (yB y = B ∧ yt0 y = t0 ∧ yC y 0 ≤ 100 ∧ yC y 1 ≤ 100) ∧ Rep y w h ∧ Wd σ' κ σ μ z w ∧ HM μ ∧ (z.1 ≤ N ∧ z.2.1 ≤ M)
def mA (cf : String → Nat) (g : Int32 → Int64) (k : Int32) (u : Int64) : RS → Prop
  | .inl v => k = 0 ∧ u = g v
  | .inr e => k = nI (cf e) ∧ 0 < cf e ∧ cf e < 100
def MidA (B t0 N M : Nat) (σ σ' : SG) (cf : String → Nat) (g : Int32 → Int64) (r : RS) (k : Int32) (h : AH) : Prop := ∃ (y : LY) (κ μ : SG) (z : BB) (w : PS), (yB y = B ∧ yt0 y = t0 ∧ yC y 0 ≤ 100 ∧ yC y 1 ≤ 100) ∧ Rep y w h ∧ Wd σ' κ σ μ z w ∧ HM μ ∧ (z.1 ≤ N ∧ z.2.1 ≤ M) ∧ mA cf g k z.2.2 r
def mB (cf : String → Nat) (g : Int32 → Int64) (k b : Int32) (u : Int64) (c : Nat) : RS → Prop
  | .inl v => k = 0 ∧ u = g v ∧ b = v ∧ c = 0
  | .inr e => k = nI (cf e) ∧ 0 < cf e ∧ cf e < 100 ∧ c = cf e
def MidB (B t0 N M : Nat) (σ' : SG) (cf : String → Nat) (g : Int32 → Int64) (r : RS) (k b : Int32) (h : AH) : Prop := ∃ (y : LY) (κ μ : SG) (z : BB) (w : PS), (yB y = B ∧ yt0 y = t0 ∧ yC y 0 ≤ 100 ∧ yC y 1 ≤ 100) ∧ Rep y w h ∧ Wd σ' κ σ' μ z w ∧ HM μ ∧ (z.1 ≤ N ∧ z.2.1 ≤ M) ∧ mB cf g k b z.2.2 (μ 5 0 0) r
section LAW
variable {σ σ' : SG} {B t0 mi N M : Nat} {h : AH} {G : Option ((Int32 ⊕ String) × AH) → Prop} {fc fm : Nat → Nat → Nat → Mo Int32}
theorem law1 {v : Int32} {C : Int32 → Mo Int32} (hs : LSt B t0 N M σ h) (hc : ClsH fc σ σ' (.inl v)) (hC : ∀ h1, Mid1 B t0 (N + 6) (M + 200) σ σ' h1 → G (C v h1)) : G (bnd (vc B 6 (fc t0 mi B)) C h) := by
  obtain ⟨y, κ, μ, z, w, ⟨rfl, rfl, c0, c1⟩, hr, hw, hm, hz, inv⟩ := hs
  obtain ⟨y', κ', z', w', h', e, a1, a2, a3, a4, a5, a6⟩ := hc y mi κ σ μ z w h hw hr c0 c1
  have o6 := (hr.2.1 6 0 rfl).1
  have e' : vc (yB y) 6 (fc (yt0 y) mi (yB y)) h = some (.inl v, h') := (vc_eq (a := adO y 6 0) o6).trans e
  rw [bnd_eq e']
  exact hC h' ⟨y', κ', μ, z', w', a1, a3, a2, hm, by omega, by omega⟩
theorem lawB1 {v : Int32} {C : Int32 → Mo Int32} (hs : Mid1 B t0 N M σ σ' h) (hf : RfrH fm cf1 σ σ' (.inl v)) (inv : INV3 σ') (hC : ∀ h1, LSt B t0 N M σ' h1 → G (C v h1)) : G (bnd (vc (B + 17) 7 (fm t0 mi (B + 17))) C h) := by
  obtain ⟨y, κ, μ, z, w, ⟨rfl, rfl, c0, c1⟩, hr, hw, hm, hz⟩ := hs
  obtain ⟨v', μ', w', h', e, a1, a2, a3, a4, a5⟩ := hf y mi σ' κ μ z w h hm hw hr
  subst a4
  have o7 := (hr.2.1 7 0 rfl).1
  have e' : vc (yB y + 17) 7 (fm (yt0 y) mi (yB y + 17)) h = some (.inl v', h') := (vc_eq (a := adO y 7 0) o7).trans e
  rw [bnd_eq e']
  exact hC h' ⟨y, κ, μ', z, w', ⟨rfl, rfl, c0, c1⟩, a1, a2, a3, hz, inv⟩
theorem lawA {r : RS} {cf : String → Nat} {S : String → Prop} {g : Int32 → Int64} {hd : String → Mo Int32} {C : Int32 → Mo Int32} (hs : LSt B t0 N M σ h) (hc : ClsH fc σ σ' r) (hok : okR S r) (hhd : ∀ e, S e → hd e = rt (nI (cf e)) ∧ 0 < cf e ∧ cf e < 100) (hC : ∀ k h1, MidA B t0 (N + 6) (M + 200) σ σ' cf g r k h1 → G (C k h1)) : G (bnd (ctc (vc B 6 (fc t0 mi B)) (fun v => bnd (stL (B + 45) (0 : Int32) (g v)) fun _ => rt (0 : Int32)) hd) C h) := by
  obtain ⟨y, κ, μ, z, w, ⟨rfl, rfl, c0, c1⟩, hr, hw, hm, hz, inv⟩ := hs
  obtain ⟨y', κ', z', w', h', e, a1, a2, a3, a4, a5, a6⟩ := hc y mi κ σ μ z w h hw hr c0 c1
  have o6 := (hr.2.1 6 0 rfl).1
  have e' : vc (adO y 6 0) 6 (fc (yt0 y) mi (adO y 6 0)) h = some (r, h') := (vc_eq o6).trans e
  have e' : vc (yB y) 6 (fc (yt0 y) mi (yB y)) h = some (r, h') := e'
  cases r with
  | inl v =>
    obtain ⟨x, h2, q1, q2, q3⟩ := Lft_stO (y := y') (i := 0) (v := g v) w' h' a3 (.inl ()) (w'.1, w'.2.1, w'.2.2.1, w'.2.2.2.1, g v) rfl
    cases x with
    | inr _ => cases q2
    | inl u =>
      rw [a1.1] at q1
      have : ctc (vc (yB y) 6 (fc (yt0 y) mi (yB y))) (fun v => bnd (stL (yB y + 45) (0 : Int32) (g v)) fun _ => rt (0 : Int32)) hd h = some (.inl 0, h2) := by
        unfold ctc
        rw [e']
        show bnd (stL (yB y + 45) (0 : Int32) (g v)) (fun _ => rt (0 : Int32)) h' = _
        rw [bnd_eq q1]
        rfl
      rw [bnd_eq this]
      exact hC 0 h2 ⟨y', κ', μ, (z'.1, z'.2.1, g v), _, a1, q3, ⟨⟨a2.1.1, a2.1.2.1, rfl⟩, a2.2⟩, hm, ⟨by show z'.1 ≤ _; omega, by show z'.2.1 ≤ _; omega⟩, rfl, rfl⟩
  | inr E =>
    obtain ⟨q1, q2, q3⟩ := hhd E hok
    have : ctc (vc (yB y) 6 (fc (yt0 y) mi (yB y))) (fun v => bnd (stL (yB y + 45) (0 : Int32) (g v)) fun _ => rt (0 : Int32)) hd h = some (.inl (nI (cf E)), h') := by
      unfold ctc
      rw [e']
      show hd E h' = _
      rw [q1]
      rfl
    rw [bnd_eq this]
    exact hC _ h' ⟨y', κ', μ, z', w', a1, a3, a2, hm, ⟨by omega, by omega⟩, rfl, q2, q3⟩
theorem lawB {r : RS} {cf : String → Nat} {g : Int32 → Int64} {k : Int32} {C : Int32 → Mo Int32} (hs : MidA B t0 N M σ σ' cf g r k h) (hf : RfrH fm cf σ σ' r) (hC : ∀ b h1, MidB B t0 N M σ' cf g r k b h1 → G (C b h1)) : G (bnd (vc (B + 17) 7 (fm t0 mi (B + 17))) C h) := by
  obtain ⟨y, κ, μ, z, w, ⟨rfl, rfl, c0, c1⟩, hr, hw, hm, hz, hr2⟩ := hs
  obtain ⟨v', μ', w', h', e, a1, a2, a3, a4⟩ := hf y mi σ' κ μ z w h hm hw hr
  have o7 := (hr.2.1 7 0 rfl).1
  have e' : vc (yB y + 17) 7 (fm (yt0 y) mi (yB y + 17)) h = some (.inl v', h') := (vc_eq (a := adO y 7 0) o7).trans e
  rw [bnd_eq e']
  refine hC v' h' ⟨y, κ, μ', z, w', ⟨rfl, rfl, c0, c1⟩, a1, a2, a3, hz, ?_⟩
  cases r with
  | inl v => exact ⟨hr2.1, hr2.2, a4.1, a4.2⟩
  | inr E => exact ⟨hr2.1, hr2.2.1, hr2.2.2, a4⟩
theorem lawC {r : RS} {cf : String → Nat} {g : Int32 → Int64} {k b : Int32} {K : Mo Int32} (hs : MidB B t0 N M σ' cf g r k b h) (inv : INV3 σ') (hK : ∀ h1, LSt B t0 N M σ' h1 → G (K h1)) : G (bnd (vc (B + 17) 7 (f_X6_thrown t0 mi (B + 17))) (fun t => (if t = k then (if k = 0 then bnd (ldL (B + 45) (0 : Int32)) fun v => (if (lg_cmp v (g b)) = 0 then K else rtZ (0 : Int32)) else K) else rtZ (0 : Int32))) h) := by
  obtain ⟨y, κ, μ, z, w, ⟨rfl, rfl, c0, c1⟩, hr, hw, hm, hz, hr2⟩ := hs
  refine bnd_lft (Lft_vc (c := 7) (i := 0) (Lf_f_X6_thrown (t0 := yt0 y) (mi := mi))) (by rw [pbnd_eq (g_chk7 hw)]; unfold p_X6_thrown; rw [pbnd_eq (h_code hw)]; rfl) hr (fun a h1 ea hr1 => ?_)
  subst ea
  have ls : LSt (yB y) (yt0 y) N M σ' h1 := ⟨y, κ, μ, z, w, ⟨rfl, rfl, c0, c1⟩, hr1, hw, hm, hz, inv⟩
  cases r with
  | inl v =>
    obtain ⟨rfl, q2, rfl, q4⟩ := hr2
    rw [q4, if_pos nI_0, if_pos rfl]
    refine bnd_lft (Lft_ldO (i := 0)) (v := z.2.2) (by show (if (0 : Int32) = 0 then some ((Sum.inl w.2.2.2.2 : Int64 ⊕ String), w) else none) = _; rw [if_pos rfl, hw.1.2.2]) hr1 (fun a h2 ea hr2 => ?_)
    subst ea
    rw [q2, if_pos ((lg_cmp_eq _ _).mpr rfl)]
    exact hK h2 ⟨y, κ, μ, z, w, ⟨rfl, rfl, c0, c1⟩, hr2, hw, hm, hz, inv⟩
  | inr E =>
    obtain ⟨rfl, q2, q3, q4⟩ := hr2
    rw [q4, if_pos rfl, if_neg (nI_ne0 q2 (by omega))]
    exact hK h1 ls
theorem ldS_eq {L p j : Nat} {xs : Nat → Int32} (hp : p + j < L) (hL : L ≤ 3584) : ldS L xs (nI p + nI j) h = some (.inl (xs (p + j)), h) := by
  unfold ldS
  rw [nI_add, if_pos (oob_nI hp (by omega)), nI_clamp (by omega)]
theorem ldS_0 {L p : Nat} {xs : Nat → Int32} (hp : p < L) (hL : L ≤ 3584) : ldS L xs (nI p) h = some (.inl (xs p), h) := by
  unfold ldS
  rw [if_pos (oob_nI hp (by omega)), nI_clamp (by omega)]
theorem ldS_1 {L p : Nat} {xs : Nat → Int32} (hp : p + 1 < L) (hL : L ≤ 3584) : ldS L xs (nI p + (1 : Int32)) h = some (.inl (xs (p + 1)), h) := ldS_eq (j := 1) hp hL
theorem ldS_2 {L p : Nat} {xs : Nat → Int32} (hp : p + 2 < L) (hL : L ≤ 3584) : ldS L xs (nI p + (2 : Int32)) h = some (.inl (xs (p + 2)), h) := ldS_eq (j := 2) hp hL
theorem ldS_3 {L p : Nat} {xs : Nat → Int32} (hp : p + 3 < L) (hL : L ≤ 3584) : ldS L xs (nI p + (3 : Int32)) h = some (.inl (xs (p + 3)), h) := ldS_eq (j := 3) hp hL
theorem ldS_4 {L p : Nat} {xs : Nat → Int32} (hp : p + 4 < L) (hL : L ≤ 3584) : ldS L xs (nI p + (4 : Int32)) h = some (.inl (xs (p + 4)), h) := ldS_eq (j := 4) hp hL
theorem ldS_5 {L p : Nat} {xs : Nat → Int32} (hp : p + 5 < L) (hL : L ≤ 3584) : ldS L xs (nI p + (5 : Int32)) h = some (.inl (xs (p + 5)), h) := ldS_eq (j := 5) hp hL
theorem ldS_6 {L p : Nat} {xs : Nat → Int32} (hp : p + 6 < L) (hL : L ≤ 3584) : ldS L xs (nI p + (6 : Int32)) h = some (.inl (xs (p + 6)), h) := ldS_eq (j := 6) hp hL
theorem hdN : ∀ e, sN e → (fun E => (if E = "java/util/NoSuchElementException" then (rt (1 : Int32) : Mo Int32) else flr)) e = rt (nI (cf1 e)) ∧ 0 < cf1 e ∧ cf1 e < 100 := by
  intro e he
  have he : e = eN := he
  subst he
  exact ⟨if_pos rfl, by decide, by decide⟩
theorem hdI : ∀ e, sI e → (fun E => (if E = "java/lang/IllegalArgumentException" then (rt (1 : Int32) : Mo Int32) else flr)) e = rt (nI (cf1 e)) ∧ 0 < cf1 e ∧ cf1 e < 100 := by
  intro e he
  have he : e = eI := he
  subst he
  exact ⟨if_pos rfl, by decide, by decide⟩
theorem hdNI : ∀ e, sNI e → (fun E => (if E = "java/util/NoSuchElementException" then (rt (1 : Int32) : Mo Int32) else (if E = "java/lang/IllegalArgumentException" then rt (2 : Int32) else flr))) e = rt (nI (cf2 e)) ∧ 0 < cf2 e ∧ cf2 e < 100 := by
  intro e he
  have hne : ¬ eN = eI := by decide
  rcases he with he | he
  · subst he
    have c : cf2 eN = 1 := if_neg hne
    rw [c]
    exact ⟨if_pos rfl, by decide, by decide⟩
  · subst he
    have c : cf2 eI = 2 := if_pos rfl
    rw [c]
    exact ⟨(if_neg (fun q => hne q.symm)).trans (if_pos rfl), by decide, by decide⟩
theorem oh_station (hv : INV3 σ) (x1 : Int32) : Op1H (fun t0 mi a => f_X5_station t0 mi a x1) (fun t0 mi a => f_X6_station t0 mi a x1) σ := by
  obtain ⟨v, s, i, c, m⟩ := op_station hv x1
  exact ⟨v, s, i, ClsH.of (fun y t0 mi => Lf_f_X5_station x1) c, RfrH.of (fun y t0 mi => Lf_f_X6_station x1) m⟩
theorem oh_train (hv : INV3 σ) (x1 : Int32) : Op1H (fun t0 mi a => f_X5_train t0 mi a x1) (fun t0 mi a => f_X6_train t0 mi a x1) σ := op_train hv x1
theorem oh_stop (hv : INV3 σ) (x1 x2 x3 : Int32) : OpH (fun t0 mi a => f_X5_stop t0 mi a x1 x2 x3) (fun t0 mi a => f_X6_stop t0 mi a x1 x2 x3) cf1 sN σ := by
  obtain ⟨r, ok, s, i, c, m⟩ := op_stop hv x1 x2 x3
  exact ⟨r, ok, s, i, ClsH.of (fun y t0 mi => Lf_f_X5_stop x1 x2 x3) c, RfrH.of (fun y t0 mi => Lf_f_X6_stop x1 x2 x3) m⟩
theorem oh_box (hv : INV3 σ) (x1 x2 x3 x4 x5 x6 : Int32) : Op1H (fun t0 mi a => f_X5_box t0 mi a x1 x2 x3 x4 x5 x6) (fun t0 mi a => f_X6_box t0 mi a x1 x2 x3 x4 x5 x6) σ := op_box hv x1 x2 x3 x4 x5 x6
theorem oh_plan (hv : INV3 σ) : Op1H (fun t0 mi a => f_X5_plan t0 mi a) (fun t0 mi a => f_X6_plan t0 mi a) σ := by
  obtain ⟨v, s, i, c, m⟩ := op_plan hv
  exact ⟨v, s, i, ClsH.of (fun y t0 mi => Lf_f_X5_plan) c, RfrH.of (fun y t0 mi => Lf_f_X6_plan) m⟩
theorem oh_minutes (hv : INV3 σ) (x1 : Int32) : OpH (fun t0 mi a => f_X5_minutes t0 mi a x1) (fun t0 mi a => f_X6_minutes t0 mi a x1) cf1 sI σ := by
  obtain ⟨r, ok, s, i, c, m⟩ := op_minutes hv x1
  exact ⟨r, ok, s, i, ClsH.of (fun y t0 mi => Lf_f_X5_minutes x1) c, RfrH.of (fun y t0 mi => Lf_f_X6_minutes x1) m⟩
theorem oh_cancel (hv : INV3 σ) (x1 : Int32) : OpH (fun t0 mi a => f_X5_cancel t0 mi a x1) (fun t0 mi a => f_X6_cancel t0 mi a x1) cf1 sN σ := by
  obtain ⟨r, ok, s, i, c, m⟩ := op_cancel hv x1
  exact ⟨r, ok, s, i, ClsH.of (fun y t0 mi => Lf_f_X5_cancel x1) c, RfrH.of (fun y t0 mi => Lf_f_X6_cancel x1) m⟩
theorem oh_empty (hv : INV3 σ) (x1 x2 : Int32) : OpH (fun t0 mi a => f_X5_empty t0 mi a x1 x2) (fun t0 mi a => f_X6_empty t0 mi a x1 x2) cf1 sN σ := op_empty hv x1 x2
theorem oh_of (hv : INV3 σ) (x1 x2 : Int32) : OpH (fun t0 mi a => f_X5_of t0 mi a x1 x2) (fun t0 mi a => f_X6_of t0 mi a x1 x2) cf1 sN σ := by
  obtain ⟨r, ok, s, i, c, m⟩ := op_of hv x1 x2
  exact ⟨r, ok, s, i, ClsH.of (fun y t0 mi => Lf_f_X5_of x1 x2) c, RfrH.of (fun y t0 mi => Lf_f_X6_of x1 x2) m⟩
theorem oh_leg (hv : INV3 σ) (x1 x2 x3 : Int32) : OpH (fun t0 mi a => f_X5_leg t0 mi a x1 x2 x3) (fun t0 mi a => f_X6_leg t0 mi a x1 x2 x3) cf1 sN σ := by
  obtain ⟨r, ok, s, i, c, m⟩ := op_leg hv x1 x2 x3
  exact ⟨r, ok, s, i, ClsH.of (fun y t0 mi => Lf_f_X5_leg x1 x2 x3) c, RfrH.of (fun y t0 mi => Lf_f_X6_leg x1 x2 x3) m⟩
theorem oh_load (hv : INV3 σ) (x1 x2 : Int32) : OpH (fun t0 mi a => f_X5_load t0 mi a x1 x2) (fun t0 mi a => f_X6_load t0 mi a x1 x2) cf1 sN σ := by
  obtain ⟨r, ok, s, i, c, m⟩ := op_load hv x1 x2
  exact ⟨r, ok, s, i, ClsH.of (fun y t0 mi => Lf_f_X5_load x1 x2) c, RfrH.of (fun y t0 mi => Lf_f_X6_load x1 x2) m⟩
theorem oh_where (hv : INV3 σ) (x1 : Int32) : OpH (fun t0 mi a => f_X5_where t0 mi a x1) (fun t0 mi a => f_X6_where t0 mi a x1) cf1 sN σ := by
  obtain ⟨r, ok, s, i, c, m⟩ := op_where hv x1
  exact ⟨r, ok, s, i, ClsH.of (fun y t0 mi => Lf_f_X5_where x1) c, RfrH.of (fun y t0 mi => Lf_f_X6_where x1) m⟩
theorem oh_mark (hv : INV3 σ) (x1 : Int32) : OpH (fun t0 mi a => f_X5_mark t0 mi a x1) (fun t0 mi a => f_X6_mark t0 mi a x1) cf1 sN σ := by
  obtain ⟨r, ok, s, i, c, m⟩ := op_mark hv x1
  exact ⟨r, ok, s, i, ClsH.of (fun y t0 mi => Lf_f_X5_mark x1) c, RfrH.of (fun y t0 mi => Lf_f_X6_mark x1) m⟩
theorem oh_carrier (hv : INV3 σ) (x1 : Int32) : Op1H (fun t0 mi a => f_X5_carrier t0 mi a x1) (fun t0 mi a => f_X6_carrier t0 mi a x1) σ := by
  obtain ⟨v, s, i, c, m⟩ := op_carrier hv x1
  exact ⟨v, s, i, ClsH.of (fun y t0 mi => Lf_f_X5_carrier x1) c, RfrH.of (fun y t0 mi => Lf_f_X6_carrier x1) m⟩
theorem oh_share (hv : INV3 σ) (x1 x2 : Int32) : OpH (fun t0 mi a => f_X5_share t0 mi a x1 x2) (fun t0 mi a => f_X6_share t0 mi a x1 x2) cf2 sNI σ := by
  obtain ⟨r, ok, s, i, c, m⟩ := op_share hv x1 x2
  exact ⟨r, ok, s, i, ClsH.of (fun y t0 mi => Lf_f_X5_share x1 x2) c, RfrH.of (fun y t0 mi => Lf_f_X6_share x1 x2) m⟩
theorem oh_count (hv : INV3 σ) (x1 : Int32) : OpH (fun t0 mi a => f_X5_count t0 mi a x1) (fun t0 mi a => f_X6_count t0 mi a x1) cf1 sN σ := by
  obtain ⟨r, ok, s, i, c, m⟩ := op_count hv x1
  exact ⟨r, ok, s, i, ClsH.of (fun y t0 mi => Lf_f_X5_count x1) c, RfrH.of (fun y t0 mi => Lf_f_X6_count x1) m⟩
theorem LSt.end (hs : LSt B t0 N M σ h) : h.1 ≤ B + N ∧ h.2.1 ≤ M := by
  obtain ⟨y, κ, μ, z, w, ⟨rfl, -⟩, hr, hw, -, hz, -⟩ := hs
  have b1 := hr.1.1
  have b2 := hr.1.2.1
  have b3 := hw.1.1
  have b4 := hw.1.2.1
  omega
end LAW
