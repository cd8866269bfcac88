section T
set_option maxHeartbeats 400000 in
theorem tst1 (n s : Nat) (F A : F3) (o : Int64) (x : Int32) (ns : Nat) (h : F 3 0 1 = nI ns) (hn : ns ≤ 10) (Q : (Int32 ⊕ String) → PS → Prop) (q1 : x < 0 ∨ nI 60 < x ∨ ns = 10 → Q (.inl (-1)) (n, s, F, A, o)) (q2 : ¬ (x < 0 ∨ nI 60 < x ∨ ns = 10) → Q (.inl (nI ns)) (n, s, u3 F 3 0 1 (nI (ns + 1)), u3 A 0 0 ns x, o)) : Rn (p_X5_station x) (n, s, F, A, o) Q := by
  unfold p_X5_station p_X5_isWithin p_X5_isWithin_b13 p_X5_isWithin_b14
  refine Rn_bnd ?_
  refine Rn_if (fun h1 => ?_) (fun h1 => ?_)
  · refine Rn_rtZ0 ?_
    refine Rn_if (fun h2 => ?_) (fun h2 => absurd rfl h2)
    unfold p_X5_station_b21
    refine Rn_rt ?_
    exact q1 (Or.inl h1)
  · refine Rn_if (fun h2 => ?_) (fun h2 => ?_)
    · refine Rn_rtZ0 ?_
      refine Rn_if (fun h3 => ?_) (fun h3 => absurd rfl h3)
      unfold p_X5_station_b21
      refine Rn_rt ?_
      exact q1 (Or.inr (Or.inl h2))
    · refine Rn_rtZ1 ?_
      refine Rn_if (fun h3 => absurd h3 (by decide)) (fun h3 => ?_)
      unfold p_X2_addStation
      refine Rn_bnd (Rn_chk rfl ?_)
      refine Rn_bnd ?_
      refine Rn_bnd (Rn_chk rfl ?_)
      refine Rn_bnd (Rn_gI rfl ?_)
      rw [h]
      refine Rn_if (fun h4 => ?_) (fun h4 => ?_)
      · refine Rn_bnd (Rn_chk rfl ?_)
        refine Rn_bnd (Rn_gI rfl ?_)
        sorry
      · sorry
end T
theorem i_vc : Claimed_1_1 ∧ Claimed_1_2 := sorry
