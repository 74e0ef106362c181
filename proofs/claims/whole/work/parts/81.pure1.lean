/-! PURE: small facts, and the first calls -/
theorem p_in (x lo hi : Int32) : FM_in x.toInt64 lo.toInt64 hi.toInt64 = some (if lo ≤ x ∧ x ≤ hi then 1 else 0) := by
  unfold FM_in
  simp only [lg_cmp_lt, lg_cmp_gt, Int64.lt_iff_toInt_lt, Int32.le_iff_toInt_le, Int32.toInt_toInt64]
  by_cases h1 : x.toInt < lo.toInt
  · rw [if_pos h1, if_neg (by omega)]
  · rw [if_neg h1]
    by_cases h2 : hi.toInt < x.toInt
    · rw [if_pos h2, if_neg (by omega)]
    · rw [if_neg h2, if_pos (by omega)]
theorem p_outside (x lo hi : Int32) : FP_outside x lo hi = some (if lo ≤ x ∧ x ≤ hi then 0 else 1) := by
  unfold FP_outside FP_outside_10
  simp only [Int32.lt_iff_toInt_lt, Int32.le_iff_toInt_le]
  by_cases h1 : x.toInt < lo.toInt
  · rw [if_pos h1, if_neg (by omega)]
  · rw [if_neg h1]
    by_cases h2 : x.toInt ≤ hi.toInt
    · rw [if_pos h2, if_pos (by omega)]
    · rw [if_neg h2, if_neg (by omega)]
theorem p_isRow (x : Int32) : FM_isRow x = some (if 0 ≤ x ∧ x ≤ 7 then 1 else 0) := by
  unfold FM_isRow
  rw [show FM_in (Int32.toInt64 x) 0 7 = _ from p_in x 0 7]
  by_cases h : 0 ≤ x ∧ x ≤ 7
  · simp [h, gd]
  · simp [h, gd]
theorem p_noRow (x : Int32) : FP_noRow x = some (if 0 ≤ x ∧ x ≤ 7 then 0 else 1) := by
  unfold FP_noRow
  rw [p_outside]
  by_cases h : 0 ≤ x ∧ x ≤ 7
  · simp [h, gd]
  · simp [h, gd]
theorem ixc {x t : Int32} {N : Nat} (hN : N < 2 ^ 30) (h0 : 0 ≤ t) (h1 : t ≤ nI N) (hc : 0 ≤ x ∧ x ≤ t - 1) : ∃ j : Nat, j < N ∧ x = nI j ∧ nI j < t := by
  obtain ⟨n, hn, rfl⟩ := nI_of (x := t) (Int32.not_lt.mpr h0)
  obtain ⟨j, hj, rfl⟩ := nI_of (x := x) (Int32.not_lt.mpr hc.1)
  have h2 := (nI_leI hn (by omega)).mp h1
  cases n with
  | zero =>
    exfalso
    have h3 := hc.2
    rw [Int32.le_iff_toInt_le, nI_toInt hj] at h3
    have h4 : (nI 0 - 1 : Int32).toInt = -1 := by decide
    omega
  | succ n =>
    have h3 := hc.2
    rw [nI_pred] at h3
    have h4 := (nI_leI hj (by omega)).mp h3
    exact ⟨j, by omega, rfl, nI_lt (by omega) (by omega)⟩
theorem gd_nI {β : Type} {j N : Nat} (h : j < N) (hN : N < 2 ^ 31) (x : Option β) : gd (¬ ((nI j : Int32) < 0 ∨ N ≤ Int32.toNatClampNeg (nI j))) x = x := gd_t (vp_in_nI h hN)
theorem sim_status : Sim_status Rel := by
  intro k σP σL σG σR σT σC σA σK ω ι σ hk h
  refine ⟨σP.1 9, setF σ 0 0, rfl, ?_, Rel.mono _ _ _ _ _ _ _ _ _ _ _ _ h⟩
  show some (σ.1 1, setF σ 0 0) = _
  rw [h.1.1]
theorem sim_fault : Sim_fault Rel := by
  intro k σP σL σG σR σT σC σA σK ω ι σ hk h
  refine ⟨σP.1 10, setF σ 0 0, rfl, ?_, Rel.mono _ _ _ _ _ _ _ _ _ _ _ _ h⟩
  show some (σ.1 12, setF σ 0 0) = _
  rw [h.1.2]
theorem sim_trace : Sim_trace Rel := by
  intro k σP σL σG σR σT σC σA σK ω ι σ a1 hk h
  obtain ⟨t1, t2, t3, t4⟩ := h.2.2.2.2.2.2
  by_cases hc : 0 ≤ a1 ∧ a1 ≤ σ.1 25 - 1
  · obtain ⟨j, hj, rfl, hl⟩ := ixc (N := 16) (by decide) t2 t3 hc
    refine ⟨σA.2 0 j, setF σ 0 0, ?_, ?_, Rel.mono _ _ _ _ _ _ _ _ _ _ _ _ h⟩
    · unfold FP_trace FA_noted
      rw [t1, p_outside, if_pos hc]
      show Option.bind (gd _ _) _ = _
      rw [gd_nI hj (by decide), nI_clamp (by omega)]
      rfl
    · unfold FM_trace
      show Option.bind (FM_in (Int32.toInt64 (nI j)) 0 (Int32.toInt64 (σ.1 25 - 1))) _ = _
      rw [show FM_in (Int32.toInt64 (nI j)) 0 (Int32.toInt64 (σ.1 25 - 1)) = _ from p_in (nI j) 0 (σ.1 25 - 1), if_pos hc]
      show gd _ _ = _
      rw [gd_nI hj (by decide), nI_clamp (by omega), t4 j hj hl]
      rfl
  · refine ⟨-1000000, setF σ 0 0, ?_, ?_, Rel.mono _ _ _ _ _ _ _ _ _ _ _ _ h⟩
    · unfold FP_trace FA_noted
      rw [t1, p_outside, if_neg hc]
      rfl
    · unfold FM_trace
      show Option.bind (FM_in (Int32.toInt64 a1) 0 (Int32.toInt64 (σ.1 25 - 1))) _ = _
      rw [show FM_in (Int32.toInt64 a1) 0 (Int32.toInt64 (σ.1 25 - 1)) = _ from p_in a1 0 (σ.1 25 - 1), if_neg hc]
      rfl
