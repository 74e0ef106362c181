/-! PURE: coin, late, mustGo, sounds -/
theorem p_slackOf {k : Nat} {σL σ : MS} {j q t : Nat} (hk : k < 512) (h : RReal k (σL.1 4) (σL.1 5) (σL.1 6) (σL.1 7) (σL.2 0) (σL.2 1) (σL.2 2) (σL.2 3) (σ.2 5)) (h1 : σL.1 4 = 1) (C : Cn k σL σ j q t) : FL_slackOf σL (nI j) = some (svL σL j t 0) ∧ FM_slackOf σ (nI j) = some (svL σL j t 0) := by
  have hw := (h.2.2.2.2.1 h1 t 0 C.1.2.2.1 (by decide)).1
  rw [Nat.add_zero, Nat.add_zero] at hw
  constructor
  · unfold FL_slackOf
    rw [show FL_slackWithMint σL (nI j) 0 = _ from p_lslack (s := 0) C (by decide)]
    rfl
  · unfold FM_slackOf
    rw [C.2.2.2.1.2.1, Option.bind_some, show FM_farOf σ (nI t) 0 = _ from p_farOf σ (a := t) (b := 0) C.1.2.2.1 (by decide), Option.bind_some, Nat.add_zero, p_mslack (s := 0) hk C (fun _ => by rw [Nat.add_zero, ite_self]; exact hw) (fun _ => hw)]
    rfl
theorem told1 {k : Nat} {a b c d : Int32} {w x y z g : Nat → Int32} (h : RReal k a b c d w x y z g) {j : Nat} (hl : nI j < d) (hj : j < 12) : a = 1 := by
  rcases h.1 with h0 | h0
  · exfalso
    have := (h.2.2.2.1 h0).2
    rw [this] at hl
    exact nI_pos (by omega) hl
  · exact h0
/-- the coins' number -/
theorem RReal.num {k : Nat} {a b c d : Int32} {w x y z g : Nat → Int32} (h : RReal k a b c d w x y z g) : ∃ N, N ≤ 12 ∧ d = nI N ∧ g 3 = nI N := by
  obtain ⟨-, ⟨-, -, e, -⟩, ⟨-, -, -, -, b1, b2, -, -⟩, -⟩ := h
  obtain ⟨N, hN, eN⟩ := nI_of2 (x := d) (M := 12) (n := 12) (by decide) (Int32.not_lt.mpr b1) b2
  exact ⟨N, hN, eN, by rw [← e, eN]⟩
theorem late_loop {k : Nat} {σL σ : MS} (hk : k < 512) (h : RReal k (σL.1 4) (σL.1 5) (σL.1 6) (σL.1 7) (σL.2 0) (σL.2 1) (σL.2 2) (σL.2 3) (σ.2 5)) (h1 : σL.1 4 = 1) {N : Nat} (hN : N ≤ 12) (e1 : σL.1 7 = nI N) (e2 : σ.2 5 3 = nI N) (n : Nat) : ∀ (d c : Nat) (acc : Int32), c + d = N → ∃ r, FL_lateCoins_4 (n + d + 1) σL acc (nI c) = some r ∧ FM_late_19 (n + d + 1) σ acc (nI c) = some (r, σ) := by
  intro d
  induction d with
  | zero =>
    intro c acc hc
    refine ⟨acc, ?_, ?_⟩
    · unfold FL_lateCoins_4
      rw [e1, if_pos (nI_le (by omega) (by omega))]
    · unfold FM_late_19
      rw [gd_t (by decide), show Int32.toNatClampNeg 3 = 3 from by decide, e2, if_pos (nI_le (by omega) (by omega))]
  | succ d ih =>
    intro c acc hc
    obtain ⟨q, t, C⟩ := h.cn (j := c) (by omega) (by rw [e1]; exact nI_lt (by omega) (by omega))
    obtain ⟨s1, s2⟩ := p_slackOf hk h h1 C
    have hge : ¬ nI N ≤ nI c := nI_ge (by omega) (by omega)
    by_cases z1 : svL σL c t 0 = -1000000
    · obtain ⟨r, i1, i2⟩ := ih (c + 1) acc (by omega)
      refine ⟨r, ?_, ?_⟩
      · unfold FL_lateCoins_4 FL_isLate FL_lateCoins_29
        simp only [e1, hge, if_false, s1, Option.bind_some, z1, if_true, nm]
        rw [← nI_succ]; exact i1
      · unfold FM_late_19 FM_late_52 FM_late_53
        rw [gd_t (by decide), show Int32.toNatClampNeg 3 = 3 from by decide]
        simp only [e2, hge, if_false, s2, Option.bind_some, z1, if_true, nm, Int32.or_zero]
        rw [← nI_succ]; exact i2
    by_cases z2 : 0 ≤ svL σL c t 0
    · obtain ⟨r, i1, i2⟩ := ih (c + 1) acc (by omega)
      refine ⟨r, ?_, ?_⟩
      · unfold FL_lateCoins_4 FL_isLate FL_lateCoins_29
        simp only [e1, hge, if_false, s1, Option.bind_some, z1, z2, if_true, nm]
        rw [← nI_succ]; exact i1
      · unfold FM_late_19 FM_late_52 FM_late_53
        rw [gd_t (by decide), show Int32.toNatClampNeg 3 = 3 from by decide]
        simp only [e2, hge, if_false, s2, Option.bind_some, z1, z2, if_true, nm, Int32.or_zero]
        rw [← nI_succ]; exact i2
    · obtain ⟨r, i1, i2⟩ := ih (c + 1) (acc ||| (1 <<< (nI c &&& 31))) (by omega)
      refine ⟨r, ?_, ?_⟩
      · unfold FL_lateCoins_4 FL_isLate FL_lateCoins_29
        simp only [e1, hge, if_false, s1, Option.bind_some, z1, z2, nm, one_ne_zero32]
        rw [← nI_succ]; exact i1
      · unfold FM_late_19 FM_late_53
        rw [gd_t (by decide), show Int32.toNatClampNeg 3 = 3 from by decide]
        simp only [e2, hge, if_false, s2, Option.bind_some, z1, z2, nm]
        rw [← nI_succ]; exact i2
theorem sim_late : Sim_late Rel := by
  intro k σP σL σG σR σT σC σA σK ω ι σ hk h
  have hm := Rel.mono _ _ _ _ _ _ _ _ _ _ _ _ h
  obtain ⟨et, hR⟩ := h.2.2.2.1
  by_cases h0 : σL.1 4 = 0
  · refine ⟨-1000002, setF σ 0 0, ?_, ?_, hm⟩
    · unfold FP_late
      rw [if_pos h0]
    · unfold FM_late
      show (if σ.1 7 = 0 then _ else _) = _
      rw [if_pos (by rw [← et]; exact h0)]
  · have h1 : σL.1 4 = 1 := hR.1.resolve_left h0
    have h0' : ¬ σ.1 7 = 0 := by rw [← et]; exact h0
    obtain ⟨N, hN, e1, e2⟩ := hR.num
    obtain ⟨r, i1, i2⟩ := late_loop (σ := setF σ 0 0) hk hR h1 hN e1 e2 (4999 - N) N 0 0 (by omega)
    rw [show 4999 - N + N + 1 = fuelN from by show _ = 5000; omega] at i1 i2
    refine ⟨r, setF σ 0 0, ?_, ?_, hm⟩
    · unfold FP_late FL_lateCoins
      rw [if_neg h0, show FL_lateCoins_4 fuelN σL 0 0 = _ from i1]
      rfl
    · unfold FM_late
      show (if σ.1 7 = 0 then _ else _) = _
      rw [if_neg h0']
      exact i2
