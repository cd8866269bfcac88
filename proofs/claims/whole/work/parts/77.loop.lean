def gE : Int32 → Int64 := fun v => if v = 0 then 0 else 1
section LOOP
variable {B t0 mi L : Nat} {xs : Nat → Int32}
theorem emp_norm {x0 x3 : Nat} {x1 x2 : Int32} : f_L_empty t0 mi x0 x1 x2 x3 = ctc (vc x0 6 (f_X5_empty t0 mi x0 x1 x2)) (fun v => bnd (stL x3 (0 : Int32) (gE v)) fun _ => rt (0 : Int32)) (fun E => (if E = "java/util/NoSuchElementException" then rt (1 : Int32) else flr)) := by
  unfold f_L_empty L_empty_b16
  congr 1
  funext v
  unfold gE
  by_cases q : v = 0
  · rw [if_pos q, if_pos q]
  · rw [if_neg q, if_neg q]
theorem law_loop (hL : L ≤ 3584) : ∀ (n c : Nat) (σ : SG) (h : AH), c ≤ 512 → 513 ≤ c + n → LSt B t0 (46 + 6 * c) (4322 + 200 * c) σ h → ∃ h', L_law_L23 t0 mi L xs B (B + 17) (B + 45) (rtZ (1 : Int32)) n (nI (7 * c)) h = some (.inl 1, h') ∧ h'.1 ≤ B + 601024 ∧ h'.2.1 ≤ 7293034 := by
  intro n
  induction n with
  | zero => intro c σ h h1 h2; omega
  | succ n ih =>
    intro c σ h hc hn hs
    rw [L_law_L23]
    have e7 : (Int32.ofNat L - (7 : Int32)).toInt = (L : Int) - 7 := pk_sub_toInt (a := L) (b := 7) (by omega) (by omega)
    by_cases hend : L < 7 * c + 7
    · rw [if_pos (by rw [i_lt, e7, nI_toInt (by omega)]; omega)]
      have := hs.end
      exact ⟨h, by simp [rtZ], by omega, by omega⟩
    rw [if_neg (by rw [i_lt, e7, nI_toInt (by omega)]; omega)]
    rw [bnd_eq (ldS_0 (show 7 * c < L by omega) hL)]
    have inv : INV3 σ := by
      obtain ⟨y, κ, μ, z, w, a1, a2, a3, a4, a5, a6⟩ := hs
      exact a6
    have next : ∀ (s : SG) (h' : AH), LSt B t0 (46 + 6 * c + 6) (4322 + 200 * c + 200) s h' → ∃ h2, L_law_b1014 t0 mi L xs (L_law_L23 t0 mi L xs B (B + 17) (B + 45) (rtZ (1 : Int32)) n) B (B + 17) (B + 45) (nI (7 * c)) h' = some (.inl 1, h2) ∧ h2.1 ≤ B + 601024 ∧ h2.2.1 ≤ 7293034 := by
      intro s h' hs'
      unfold L_law_b1014
      rw [nL_7, nI_add, show 7 * c + 7 = 7 * (c + 1) by omega]
      refine ih (c + 1) s h' (by omega) (by omega) ?_
      rw [show 46 + 6 * (c + 1) = 46 + 6 * c + 6 by omega, show 4322 + 200 * (c + 1) = 4322 + 200 * c + 200 by omega]
      exact hs'
    by_cases k0 : (xs (7 * c) &&& (15 : Int32)) = 0
    · rw [if_pos k0]
      obtain ⟨v, s, i, hcl, hrf⟩ := oh_station inv (xs (7 * c + 1))
      rw [bnd_eq (ldS_1 (show 7 * c + 1 < L by omega) hL)]
      refine law1 (G := fun o => ∃ h2, o = some (.inl 1, h2) ∧ h2.1 ≤ B + 601024 ∧ h2.2.1 ≤ 7293034) hs hcl (fun h1 m1 => ?_)
      rw [bnd_eq (ldS_1 (show 7 * c + 1 < L by omega) hL)]
      refine lawB1 (G := fun o => ∃ h2, o = some (.inl 1, h2) ∧ h2.1 ≤ B + 601024 ∧ h2.2.1 ≤ 7293034) m1 hrf i (fun h2 hs2 => ?_)
      rw [if_pos rfl]
      exact next s h2 hs2
    rw [if_neg k0]
    by_cases k1 : (xs (7 * c) &&& (15 : Int32)) = 1
    · rw [if_pos k1]
      obtain ⟨v, s, i, hcl, hrf⟩ := oh_train inv (xs (7 * c + 1))
      rw [bnd_eq (ldS_1 (show 7 * c + 1 < L by omega) hL)]
      refine law1 (G := fun o => ∃ h2, o = some (.inl 1, h2) ∧ h2.1 ≤ B + 601024 ∧ h2.2.1 ≤ 7293034) hs hcl (fun h1 m1 => ?_)
      rw [bnd_eq (ldS_1 (show 7 * c + 1 < L by omega) hL)]
      refine lawB1 (G := fun o => ∃ h2, o = some (.inl 1, h2) ∧ h2.1 ≤ B + 601024 ∧ h2.2.1 ≤ 7293034) m1 hrf i (fun h2 hs2 => ?_)
      rw [if_pos rfl]
      exact next s h2 hs2
    rw [if_neg k1]
    by_cases k2 : (xs (7 * c) &&& (15 : Int32)) = 2
    · rw [if_pos k2]
      obtain ⟨r, ok, s, i, hcl, hrf⟩ := oh_stop inv (xs (7 * c + 1)) (xs (7 * c + 2)) (xs (7 * c + 3))
      rw [bnd_eq (ldS_1 (show 7 * c + 1 < L by omega) hL)]
      rw [bnd_eq (ldS_2 (show 7 * c + 2 < L by omega) hL)]
      rw [bnd_eq (ldS_3 (show 7 * c + 3 < L by omega) hL)]
      unfold f_L_stop
      refine lawA (G := fun o => ∃ h2, o = some (.inl 1, h2) ∧ h2.1 ≤ B + 601024 ∧ h2.2.1 ≤ 7293034) (g := (fun v => v.toInt64)) hs hcl ok hdN (fun k h1 m1 => ?_)
      rw [bnd_eq (ldS_1 (show 7 * c + 1 < L by omega) hL)]
      rw [bnd_eq (ldS_2 (show 7 * c + 2 < L by omega) hL)]
      rw [bnd_eq (ldS_3 (show 7 * c + 3 < L by omega) hL)]
      refine lawB (G := fun o => ∃ h2, o = some (.inl 1, h2) ∧ h2.1 ≤ B + 601024 ∧ h2.2.1 ≤ 7293034) m1 hrf (fun b h2 m2 => ?_)
      exact lawC (G := fun o => ∃ h2, o = some (.inl 1, h2) ∧ h2.1 ≤ B + 601024 ∧ h2.2.1 ≤ 7293034) (g := (fun v => v.toInt64)) (K := L_law_b247 t0 mi L xs (L_law_L23 t0 mi L xs B (B + 17) (B + 45) (rtZ (1 : Int32)) n) B (B + 17) (B + 45) (nI (7 * c))) m2 i (fun h3 hs3 => next s h3 hs3)
    rw [if_neg k2]
    by_cases k3 : (xs (7 * c) &&& (15 : Int32)) = 3
    · rw [if_pos k3]
      obtain ⟨v, s, i, hcl, hrf⟩ := oh_box inv (xs (7 * c + 1)) (xs (7 * c + 2)) (xs (7 * c + 3)) (xs (7 * c + 4)) (xs (7 * c + 5)) (xs (7 * c + 6))
      rw [bnd_eq (ldS_1 (show 7 * c + 1 < L by omega) hL)]
      rw [bnd_eq (ldS_2 (show 7 * c + 2 < L by omega) hL)]
      rw [bnd_eq (ldS_3 (show 7 * c + 3 < L by omega) hL)]
      rw [bnd_eq (ldS_4 (show 7 * c + 4 < L by omega) hL)]
      rw [bnd_eq (ldS_5 (show 7 * c + 5 < L by omega) hL)]
      rw [bnd_eq (ldS_6 (show 7 * c + 6 < L by omega) hL)]
      refine law1 (G := fun o => ∃ h2, o = some (.inl 1, h2) ∧ h2.1 ≤ B + 601024 ∧ h2.2.1 ≤ 7293034) hs hcl (fun h1 m1 => ?_)
      rw [bnd_eq (ldS_1 (show 7 * c + 1 < L by omega) hL)]
      rw [bnd_eq (ldS_2 (show 7 * c + 2 < L by omega) hL)]
      rw [bnd_eq (ldS_3 (show 7 * c + 3 < L by omega) hL)]
      rw [bnd_eq (ldS_4 (show 7 * c + 4 < L by omega) hL)]
      rw [bnd_eq (ldS_5 (show 7 * c + 5 < L by omega) hL)]
      rw [bnd_eq (ldS_6 (show 7 * c + 6 < L by omega) hL)]
      refine lawB1 (G := fun o => ∃ h2, o = some (.inl 1, h2) ∧ h2.1 ≤ B + 601024 ∧ h2.2.1 ≤ 7293034) m1 hrf i (fun h2 hs2 => ?_)
      rw [if_pos rfl]
      exact next s h2 hs2
    rw [if_neg k3]
    by_cases k4 : (xs (7 * c) &&& (15 : Int32)) = 4
    · rw [if_pos k4]
      obtain ⟨v, s, i, hcl, hrf⟩ := oh_plan inv
      refine law1 (G := fun o => ∃ h2, o = some (.inl 1, h2) ∧ h2.1 ≤ B + 601024 ∧ h2.2.1 ≤ 7293034) hs hcl (fun h1 m1 => ?_)
      refine lawB1 (G := fun o => ∃ h2, o = some (.inl 1, h2) ∧ h2.1 ≤ B + 601024 ∧ h2.2.1 ≤ 7293034) m1 hrf i (fun h2 hs2 => ?_)
      rw [if_pos rfl]
      exact next s h2 hs2
    rw [if_neg k4]
    by_cases k5 : (xs (7 * c) &&& (15 : Int32)) = 5
    · rw [if_pos k5]
      obtain ⟨r, ok, s, i, hcl, hrf⟩ := oh_minutes inv (xs (7 * c + 1))
      rw [bnd_eq (ldS_1 (show 7 * c + 1 < L by omega) hL)]
      unfold f_L_minutes
      refine lawA (G := fun o => ∃ h2, o = some (.inl 1, h2) ∧ h2.1 ≤ B + 601024 ∧ h2.2.1 ≤ 7293034) (g := (fun v => v.toInt64)) hs hcl ok hdI (fun k h1 m1 => ?_)
      rw [bnd_eq (ldS_1 (show 7 * c + 1 < L by omega) hL)]
      refine lawB (G := fun o => ∃ h2, o = some (.inl 1, h2) ∧ h2.1 ≤ B + 601024 ∧ h2.2.1 ≤ 7293034) m1 hrf (fun b h2 m2 => ?_)
      exact lawC (G := fun o => ∃ h2, o = some (.inl 1, h2) ∧ h2.1 ≤ B + 601024 ∧ h2.2.1 ≤ 7293034) (g := (fun v => v.toInt64)) (K := L_law_b403 t0 mi L xs (L_law_L23 t0 mi L xs B (B + 17) (B + 45) (rtZ (1 : Int32)) n) B (B + 17) (B + 45) (nI (7 * c))) m2 i (fun h3 hs3 => next s h3 hs3)
    rw [if_neg k5]
    by_cases k6 : (xs (7 * c) &&& (15 : Int32)) = 6
    · rw [if_pos k6]
      obtain ⟨r, ok, s, i, hcl, hrf⟩ := oh_cancel inv (xs (7 * c + 1))
      rw [bnd_eq (ldS_1 (show 7 * c + 1 < L by omega) hL)]
      unfold f_L_cancel
      refine lawA (G := fun o => ∃ h2, o = some (.inl 1, h2) ∧ h2.1 ≤ B + 601024 ∧ h2.2.1 ≤ 7293034) (g := (fun v => v.toInt64)) hs hcl ok hdN (fun k h1 m1 => ?_)
      rw [bnd_eq (ldS_1 (show 7 * c + 1 < L by omega) hL)]
      refine lawB (G := fun o => ∃ h2, o = some (.inl 1, h2) ∧ h2.1 ≤ B + 601024 ∧ h2.2.1 ≤ 7293034) m1 hrf (fun b h2 m2 => ?_)
      exact lawC (G := fun o => ∃ h2, o = some (.inl 1, h2) ∧ h2.1 ≤ B + 601024 ∧ h2.2.1 ≤ 7293034) (g := (fun v => v.toInt64)) (K := L_law_b459 t0 mi L xs (L_law_L23 t0 mi L xs B (B + 17) (B + 45) (rtZ (1 : Int32)) n) B (B + 17) (B + 45) (nI (7 * c))) m2 i (fun h3 hs3 => next s h3 hs3)
    rw [if_neg k6]
    by_cases k7 : (xs (7 * c) &&& (15 : Int32)) = 7
    · rw [if_pos k7]
      obtain ⟨r, ok, s, i, hcl, hrf⟩ := oh_empty inv (xs (7 * c + 1)) (xs (7 * c + 2))
      rw [bnd_eq (ldS_1 (show 7 * c + 1 < L by omega) hL)]
      rw [bnd_eq (ldS_2 (show 7 * c + 2 < L by omega) hL)]
      rw [emp_norm]
      refine lawA (G := fun o => ∃ h2, o = some (.inl 1, h2) ∧ h2.1 ≤ B + 601024 ∧ h2.2.1 ≤ 7293034) (g := gE) hs hcl ok hdN (fun k h1 m1 => ?_)
      rw [bnd_eq (ldS_1 (show 7 * c + 1 < L by omega) hL)]
      rw [bnd_eq (ldS_2 (show 7 * c + 2 < L by omega) hL)]
      refine lawB (G := fun o => ∃ h2, o = some (.inl 1, h2) ∧ h2.1 ≤ B + 601024 ∧ h2.2.1 ≤ 7293034) m1 hrf (fun b h2 m2 => ?_)
      have key := lawC (G := fun o => ∃ h2, o = some (.inl 1, h2) ∧ h2.1 ≤ B + 601024 ∧ h2.2.1 ≤ 7293034) (mi := mi) (K := L_law_b534 t0 mi L xs (L_law_L23 t0 mi L xs B (B + 17) (B + 45) (rtZ (1 : Int32)) n) B (B + 17) (B + 45) (nI (7 * c))) m2 i (fun h3 hs3 => next s h3 hs3)
      have e : ∀ v517 : Int64, (if b = 0 then L_law_b528 t0 mi L xs (L_law_L23 t0 mi L xs B (B + 17) (B + 45) (rtZ (1 : Int32)) n) B (B + 17) (B + 45) (nI (7 * c)) (0 : Int64) v517 else L_law_b528 t0 mi L xs (L_law_L23 t0 mi L xs B (B + 17) (B + 45) (rtZ (1 : Int32)) n) B (B + 17) (B + 45) (nI (7 * c)) (1 : Int64) v517) = (if (lg_cmp v517 (gE b)) = 0 then L_law_b534 t0 mi L xs (L_law_L23 t0 mi L xs B (B + 17) (B + 45) (rtZ (1 : Int32)) n) B (B + 17) (B + 45) (nI (7 * c)) else rtZ (0 : Int32)) := by
        intro v517
        unfold gE L_law_b528
        by_cases q : b = 0
        · rw [if_pos q, if_pos q]
        · rw [if_neg q, if_neg q]
      simp only [e]
      exact key
    rw [if_neg k7]
    by_cases k8 : (xs (7 * c) &&& (15 : Int32)) = 8
    · rw [if_pos k8]
      obtain ⟨r, ok, s, i, hcl, hrf⟩ := oh_of inv (xs (7 * c + 1)) (xs (7 * c + 2))
      rw [bnd_eq (ldS_1 (show 7 * c + 1 < L by omega) hL)]
      rw [bnd_eq (ldS_2 (show 7 * c + 2 < L by omega) hL)]
      unfold f_L_of
      refine lawA (G := fun o => ∃ h2, o = some (.inl 1, h2) ∧ h2.1 ≤ B + 601024 ∧ h2.2.1 ≤ 7293034) (g := (fun v => v.toInt64)) hs hcl ok hdN (fun k h1 m1 => ?_)
      rw [bnd_eq (ldS_1 (show 7 * c + 1 < L by omega) hL)]
      rw [bnd_eq (ldS_2 (show 7 * c + 2 < L by omega) hL)]
      refine lawB (G := fun o => ∃ h2, o = some (.inl 1, h2) ∧ h2.1 ≤ B + 601024 ∧ h2.2.1 ≤ 7293034) m1 hrf (fun b h2 m2 => ?_)
      exact lawC (G := fun o => ∃ h2, o = some (.inl 1, h2) ∧ h2.1 ≤ B + 601024 ∧ h2.2.1 ≤ 7293034) (g := (fun v => v.toInt64)) (K := L_law_b602 t0 mi L xs (L_law_L23 t0 mi L xs B (B + 17) (B + 45) (rtZ (1 : Int32)) n) B (B + 17) (B + 45) (nI (7 * c))) m2 i (fun h3 hs3 => next s h3 hs3)
    rw [if_neg k8]
    by_cases k9 : (xs (7 * c) &&& (15 : Int32)) = 9
    · rw [if_pos k9]
      obtain ⟨r, ok, s, i, hcl, hrf⟩ := oh_leg inv (xs (7 * c + 1)) (xs (7 * c + 2)) (xs (7 * c + 3))
      rw [bnd_eq (ldS_1 (show 7 * c + 1 < L by omega) hL)]
      rw [bnd_eq (ldS_2 (show 7 * c + 2 < L by omega) hL)]
      rw [bnd_eq (ldS_3 (show 7 * c + 3 < L by omega) hL)]
      unfold f_L_leg
      refine lawA (G := fun o => ∃ h2, o = some (.inl 1, h2) ∧ h2.1 ≤ B + 601024 ∧ h2.2.1 ≤ 7293034) (g := (fun v => v.toInt64)) hs hcl ok hdN (fun k h1 m1 => ?_)
      rw [bnd_eq (ldS_1 (show 7 * c + 1 < L by omega) hL)]
      rw [bnd_eq (ldS_2 (show 7 * c + 2 < L by omega) hL)]
      rw [bnd_eq (ldS_3 (show 7 * c + 3 < L by omega) hL)]
      refine lawB (G := fun o => ∃ h2, o = some (.inl 1, h2) ∧ h2.1 ≤ B + 601024 ∧ h2.2.1 ≤ 7293034) m1 hrf (fun b h2 m2 => ?_)
      exact lawC (G := fun o => ∃ h2, o = some (.inl 1, h2) ∧ h2.1 ≤ B + 601024 ∧ h2.2.1 ≤ 7293034) (g := (fun v => v.toInt64)) (K := L_law_b682 t0 mi L xs (L_law_L23 t0 mi L xs B (B + 17) (B + 45) (rtZ (1 : Int32)) n) B (B + 17) (B + 45) (nI (7 * c))) m2 i (fun h3 hs3 => next s h3 hs3)
    rw [if_neg k9]
    by_cases k10 : (xs (7 * c) &&& (15 : Int32)) = 10
    · rw [if_pos k10]
      obtain ⟨r, ok, s, i, hcl, hrf⟩ := oh_load inv (xs (7 * c + 1)) (xs (7 * c + 2))
      rw [bnd_eq (ldS_1 (show 7 * c + 1 < L by omega) hL)]
      rw [bnd_eq (ldS_2 (show 7 * c + 2 < L by omega) hL)]
      unfold f_L_load
      refine lawA (G := fun o => ∃ h2, o = some (.inl 1, h2) ∧ h2.1 ≤ B + 601024 ∧ h2.2.1 ≤ 7293034) (g := (fun v => v.toInt64)) hs hcl ok hdN (fun k h1 m1 => ?_)
      rw [bnd_eq (ldS_1 (show 7 * c + 1 < L by omega) hL)]
      rw [bnd_eq (ldS_2 (show 7 * c + 2 < L by omega) hL)]
      refine lawB (G := fun o => ∃ h2, o = some (.inl 1, h2) ∧ h2.1 ≤ B + 601024 ∧ h2.2.1 ≤ 7293034) m1 hrf (fun b h2 m2 => ?_)
      exact lawC (G := fun o => ∃ h2, o = some (.inl 1, h2) ∧ h2.1 ≤ B + 601024 ∧ h2.2.1 ≤ 7293034) (g := (fun v => v.toInt64)) (K := L_law_b750 t0 mi L xs (L_law_L23 t0 mi L xs B (B + 17) (B + 45) (rtZ (1 : Int32)) n) B (B + 17) (B + 45) (nI (7 * c))) m2 i (fun h3 hs3 => next s h3 hs3)
    rw [if_neg k10]
    by_cases k11 : (xs (7 * c) &&& (15 : Int32)) = 11
    · rw [if_pos k11]
      obtain ⟨r, ok, s, i, hcl, hrf⟩ := oh_where inv (xs (7 * c + 1))
      rw [bnd_eq (ldS_1 (show 7 * c + 1 < L by omega) hL)]
      unfold f_L_where
      refine lawA (G := fun o => ∃ h2, o = some (.inl 1, h2) ∧ h2.1 ≤ B + 601024 ∧ h2.2.1 ≤ 7293034) (g := (fun v => v.toInt64)) hs hcl ok hdN (fun k h1 m1 => ?_)
      rw [bnd_eq (ldS_1 (show 7 * c + 1 < L by omega) hL)]
      refine lawB (G := fun o => ∃ h2, o = some (.inl 1, h2) ∧ h2.1 ≤ B + 601024 ∧ h2.2.1 ≤ 7293034) m1 hrf (fun b h2 m2 => ?_)
      exact lawC (G := fun o => ∃ h2, o = some (.inl 1, h2) ∧ h2.1 ≤ B + 601024 ∧ h2.2.1 ≤ 7293034) (g := (fun v => v.toInt64)) (K := L_law_b806 t0 mi L xs (L_law_L23 t0 mi L xs B (B + 17) (B + 45) (rtZ (1 : Int32)) n) B (B + 17) (B + 45) (nI (7 * c))) m2 i (fun h3 hs3 => next s h3 hs3)
    rw [if_neg k11]
    by_cases k12 : (xs (7 * c) &&& (15 : Int32)) = 12
    · rw [if_pos k12]
      obtain ⟨r, ok, s, i, hcl, hrf⟩ := oh_mark inv (xs (7 * c + 1))
      rw [bnd_eq (ldS_1 (show 7 * c + 1 < L by omega) hL)]
      unfold f_L_mark
      refine lawA (G := fun o => ∃ h2, o = some (.inl 1, h2) ∧ h2.1 ≤ B + 601024 ∧ h2.2.1 ≤ 7293034) (g := (fun v => v.toInt64)) hs hcl ok hdN (fun k h1 m1 => ?_)
      rw [bnd_eq (ldS_1 (show 7 * c + 1 < L by omega) hL)]
      refine lawB (G := fun o => ∃ h2, o = some (.inl 1, h2) ∧ h2.1 ≤ B + 601024 ∧ h2.2.1 ≤ 7293034) m1 hrf (fun b h2 m2 => ?_)
      exact lawC (G := fun o => ∃ h2, o = some (.inl 1, h2) ∧ h2.1 ≤ B + 601024 ∧ h2.2.1 ≤ 7293034) (g := (fun v => v.toInt64)) (K := L_law_b862 t0 mi L xs (L_law_L23 t0 mi L xs B (B + 17) (B + 45) (rtZ (1 : Int32)) n) B (B + 17) (B + 45) (nI (7 * c))) m2 i (fun h3 hs3 => next s h3 hs3)
    rw [if_neg k12]
    by_cases k13 : (xs (7 * c) &&& (15 : Int32)) = 13
    · rw [if_pos k13]
      obtain ⟨v, s, i, hcl, hrf⟩ := oh_carrier inv (xs (7 * c + 1))
      rw [bnd_eq (ldS_1 (show 7 * c + 1 < L by omega) hL)]
      refine law1 (G := fun o => ∃ h2, o = some (.inl 1, h2) ∧ h2.1 ≤ B + 601024 ∧ h2.2.1 ≤ 7293034) hs hcl (fun h1 m1 => ?_)
      rw [bnd_eq (ldS_1 (show 7 * c + 1 < L by omega) hL)]
      refine lawB1 (G := fun o => ∃ h2, o = some (.inl 1, h2) ∧ h2.1 ≤ B + 601024 ∧ h2.2.1 ≤ 7293034) m1 hrf i (fun h2 hs2 => ?_)
      rw [if_pos rfl]
      exact next s h2 hs2
    rw [if_neg k13]
    by_cases k14 : (xs (7 * c) &&& (15 : Int32)) = 14
    · rw [if_pos k14]
      obtain ⟨r, ok, s, i, hcl, hrf⟩ := oh_share inv (xs (7 * c + 1)) (xs (7 * c + 2))
      rw [bnd_eq (ldS_1 (show 7 * c + 1 < L by omega) hL)]
      rw [bnd_eq (ldS_2 (show 7 * c + 2 < L by omega) hL)]
      unfold f_L_share
      refine lawA (G := fun o => ∃ h2, o = some (.inl 1, h2) ∧ h2.1 ≤ B + 601024 ∧ h2.2.1 ≤ 7293034) (g := (fun v => v.toInt64)) hs hcl ok hdNI (fun k h1 m1 => ?_)
      rw [bnd_eq (ldS_1 (show 7 * c + 1 < L by omega) hL)]
      rw [bnd_eq (ldS_2 (show 7 * c + 2 < L by omega) hL)]
      refine lawB (G := fun o => ∃ h2, o = some (.inl 1, h2) ∧ h2.1 ≤ B + 601024 ∧ h2.2.1 ≤ 7293034) m1 hrf (fun b h2 m2 => ?_)
      exact lawC (G := fun o => ∃ h2, o = some (.inl 1, h2) ∧ h2.1 ≤ B + 601024 ∧ h2.2.1 ≤ 7293034) (g := (fun v => v.toInt64)) (K := L_law_b955 t0 mi L xs (L_law_L23 t0 mi L xs B (B + 17) (B + 45) (rtZ (1 : Int32)) n) B (B + 17) (B + 45) (nI (7 * c))) m2 i (fun h3 hs3 => next s h3 hs3)
    rw [if_neg k14]
    by_cases k15 : (xs (7 * c) &&& (15 : Int32)) = 15
    · rw [if_pos k15]
      obtain ⟨r, ok, s, i, hcl, hrf⟩ := oh_count inv (xs (7 * c + 1))
      rw [bnd_eq (ldS_1 (show 7 * c + 1 < L by omega) hL)]
      unfold f_L_count
      refine lawA (G := fun o => ∃ h2, o = some (.inl 1, h2) ∧ h2.1 ≤ B + 601024 ∧ h2.2.1 ≤ 7293034) (g := (fun v => v.toInt64)) hs hcl ok hdN (fun k h1 m1 => ?_)
      rw [bnd_eq (ldS_1 (show 7 * c + 1 < L by omega) hL)]
      refine lawB (G := fun o => ∃ h2, o = some (.inl 1, h2) ∧ h2.1 ≤ B + 601024 ∧ h2.2.1 ≤ 7293034) m1 hrf (fun b h2 m2 => ?_)
      exact lawC (G := fun o => ∃ h2, o = some (.inl 1, h2) ∧ h2.1 ≤ B + 601024 ∧ h2.2.1 ≤ 7293034) (g := (fun v => v.toInt64)) (K := L_law_b1011 t0 mi L xs (L_law_L23 t0 mi L xs B (B + 17) (B + 45) (rtZ (1 : Int32)) n) B (B + 17) (B + 45) (nI (7 * c))) m2 i (fun h3 hs3 => next s h3 hs3)
    rw [if_neg k15]
    exact next σ h (by
      obtain ⟨y, κ, μ, z, w, a1, a2, a3, a4, a5, a6⟩ := hs
      exact ⟨y, κ, μ, z, w, a1, a2, a3, a4, ⟨by omega, by omega⟩, a6⟩)
theorem lawGoal_holds : ∀ (t0 mi L : Nat) (xs : Nat → Int32) (B : Nat), t0 < B → L ≤ 3584 → ∃ h : AH, f_L_law t0 mi L xs (B, 0, fun _ => none) = some (.inl 1, h) ∧ h.1 ≤ B + 601024 ∧ h.2.1 ≤ 7293034 := by
  intro t0 mi L xs B ht hL
  have h0 : ((B, 0, fun _ => none) : AH) = hl B 0 [] := by
    unfold hl
    refine Prod.ext rfl (Prod.ext rfl ?_)
    funext x
    show none = if x < B then none else ([] : List AE)[x - B]?
    split <;> rfl
  have key : f_L_law t0 mi L xs (hl B 0 []) = L_law_L23 t0 mi L xs (B + 0) (B + 17) (B + 45) (rtZ (1 : Int32)) FU (0 : Int32) (hl B 4322 (E3 B t0)) := by
    unfold f_L_law
    refine (bnd_eq (newO_hl (L := 0) rfl)).trans ?_
    refine (bnd_eq x5init).trans ?_
    refine (bnd_eq (newO_hl (L := 17) rfl)).trans ?_
    refine (bnd_eq x6init).trans ?_
    rw [nL_1]
    refine (bnd_eq (newK_hl (L := 45) rfl (Nat.le_of_ble_eq_true rfl))).trans ?_
    rfl
  rw [h0, key]
  exact law_loop hL FU 0 sg0 _ (by decide) (by decide) ⟨y00 B t0, ka0, mu0, (46, 4322, 0), _, ⟨rfl, rfl, Nat.zero_le 100, Nat.zero_le 100⟩, Rep_0 ht, Wd_0, HM_0, ⟨by decide, by decide⟩, INV3_0⟩
end LOOP
