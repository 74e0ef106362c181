/-! PURE: mustGo, sounds -/
def atH (σL : MS) (j t : Nat) : Int32 := if σL.2 3 (5 * j + 2) = 0 then svL σL j t 0 else -1000000
theorem p_atH {k : Nat} {σL σ : MS} {j q t : Nat} (hk : k < 512) (h : RReal k (σL.1 4) (σL.1 5) (σL.1 6) (σL.1 7) (σL.2 0) (σL.2 1) (σL.2 2) (σL.2 3) (σ.2 5)) (h1 : σL.1 4 = 1) (C : Cn k σL σ j q t) : FL_slackAtHolder σL (nI j) = some (atH σL j t) ∧ FM_canBeSaved σ (nI j) = some (if atH σL j t < 0 then 0 else 1) ∧ (¬ atH σL j t < 0 → FM_slackOf σ (nI j) = some (atH σL j t)) := by
  obtain ⟨s1, s2⟩ := p_slackOf hk h h1 C
  obtain ⟨-, -, ⟨-, -, -, o3, -⟩, -, ⟨-, -, wi⟩, -⟩ := C
  have s0 : FL_slackWithMint σL (nI j) 0 = some (svL σL j t 0) := by
    unfold FL_slackOf at s1
    obtain ⟨a, e, f⟩ := bi_some s1
    rw [e]; exact f
  unfold FL_slackAtHolder FM_canBeSaved atH
  rw [s2, wi, o3]
  simp only [Option.bind_some, s0]
  by_cases z : σL.2 3 (5 * j + 2) = 0
  · simp only [z, if_true, one_ne_zero32, if_false]
    by_cases z2 : svL σL j t 0 < 0
    · simp [z2]
    · simp [z2]
  · simp only [z, if_false, if_true]
    exact ⟨trivial, by decide, fun w => absurd (by decide) w⟩
theorem mustGo_loop {k : Nat} {σL σ : MS} (hk : k < 512) (h : RReal k (σL.1 4) (σL.1 5) (σL.1 6) (σL.1 7) (σL.2 0) (σL.2 1) (σL.2 2) (σL.2 3) (σ.2 5)) (h1 : σL.1 4 = 1) {N : Nat} (hN : N ≤ 12) (e1 : σL.1 7 = nI N) (e2 : σ.2 5 3 = nI N) (m : Int32) (n : Nat) : ∀ (d c : Nat) (acc : Int32), c + d = N → ∃ r, FL_coinsToGo_4 (n + d + 1) σL m acc (nI c) = some r ∧ FM_mustGo_34 (n + d + 1) σ m acc (nI c) = some (r, σ) := by
  intro d
  induction d with
  | zero =>
    intro c acc hc
    refine ⟨acc, ?_, ?_⟩
    · unfold FL_coinsToGo_4
      rw [e1, if_pos (nI_le (by omega) (by omega))]
    · unfold FM_mustGo_34
      rw [gd_t (by decide), show Int32.toNatClampNeg 3 = 3 from by decide, e2, if_pos (nI_le (by omega) (by omega))]
  | succ d ih =>
    intro c acc hc
    obtain ⟨q, t, C⟩ := h.cn (j := c) (by omega) (by rw [e1]; exact nI_lt (by omega) (by omega))
    obtain ⟨s1, s2, s3⟩ := p_atH hk h h1 C
    have hge : ¬ nI N ≤ nI c := nI_ge (by omega) (by omega)
    by_cases z1 : atH σL c t < 0
    · obtain ⟨r, i1, i2⟩ := ih (c + 1) acc (by omega)
      refine ⟨r, ?_, ?_⟩
      · unfold FL_coinsToGo_4 FL_coinsToGo_36
        simp only [e1, hge, if_false, s1, Option.bind_some, z1, if_true, nm]
        rw [← nI_succ]; exact i1
      · unfold FM_mustGo_34 FM_mustGo_68 FM_mustGo_69
        rw [gd_t (by decide), show Int32.toNatClampNeg 3 = 3 from by decide]
        simp only [e2, hge, if_false, s2, Option.bind_some, z1, if_true, nm, Int32.or_zero]
        rw [← nI_succ]; exact i2
    have s3 := s3 z1
    by_cases z2 : m ≤ atH σL c t
    · obtain ⟨r, i1, i2⟩ := ih (c + 1) acc (by omega)
      refine ⟨r, ?_, ?_⟩
      · unfold FL_coinsToGo_4 FL_coinsToGo_36
        simp only [e1, hge, if_false, s1, Option.bind_some, z1, z2, if_true, nm]
        rw [← nI_succ]; exact i1
      · unfold FM_mustGo_34 FM_mustGo_68 FM_mustGo_69
        rw [gd_t (by decide), show Int32.toNatClampNeg 3 = 3 from by decide]
        simp only [e2, hge, if_false, s2, s3, Option.bind_some, z1, z2, if_true, nm, Int32.or_zero, one_ne_zero32]
        rw [← nI_succ]; exact i2
    · obtain ⟨r, i1, i2⟩ := ih (c + 1) (acc ||| (1 <<< (nI c &&& 31))) (by omega)
      refine ⟨r, ?_, ?_⟩
      · unfold FL_coinsToGo_4 FL_coinsToGo_36
        simp only [e1, hge, if_false, s1, Option.bind_some, z1, z2, nm, one_ne_zero32]
        rw [← nI_succ]; exact i1
      · unfold FM_mustGo_34 FM_mustGo_69
        rw [gd_t (by decide), show Int32.toNatClampNeg 3 = 3 from by decide]
        simp only [e2, hge, if_false, s2, s3, Option.bind_some, z1, z2, nm, one_ne_zero32]
        rw [← nI_succ]; exact i2
theorem sim_mustGo : Sim_mustGo Rel := by
  intro k σP σL σG σR σT σC σA σK ω ι σ a1 hk h
  have hm := Rel.mono _ _ _ _ _ _ _ _ _ _ _ _ h
  obtain ⟨et, hR⟩ := h.2.2.2.1
  by_cases h0 : σL.1 4 = 0
  · refine ⟨-1000002, setF σ 0 0, ?_, ?_, hm⟩
    · unfold FP_mustGo
      rw [if_pos h0]
    · unfold FM_mustGo
      show (if σ.1 7 = 0 then _ else _) = _
      rw [if_pos (by rw [← et]; exact h0)]
  · have h1 : σL.1 4 = 1 := hR.1.resolve_left h0
    have h0' : ¬ σ.1 7 = 0 := by rw [← et]; exact h0
    by_cases hc : 1 ≤ a1 ∧ a1 ≤ 400
    · obtain ⟨N, hN, e1, e2⟩ := hR.num
      obtain ⟨r, i1, i2⟩ := mustGo_loop (σ := setF σ 0 0) hk hR h1 hN e1 e2 a1 (4999 - N) N 0 0 (by omega)
      rw [show 4999 - N + N + 1 = fuelN from by show _ = 5000; omega] at i1 i2
      refine ⟨r, setF σ 0 0, ?_, ?_, hm⟩
      · unfold FP_mustGo FL_coinsToGo
        rw [if_neg h0, p_outside, if_pos hc, Option.bind_some, if_pos rfl, show FL_coinsToGo_4 fuelN σL a1 0 0 = _ from i1]
        rfl
      · unfold FM_mustGo
        show (if σ.1 7 = 0 then _ else _) = _
        rw [if_neg h0', show FM_in (Int32.toInt64 a1) 1 400 = _ from p_in a1 1 400, if_pos hc, Option.bind_some, if_neg one_ne_zero32]
        exact i2
    · refine ⟨-1000001, setF σ 0 0, ?_, ?_, hm⟩
      · unfold FP_mustGo
        rw [if_neg h0, p_outside, if_neg hc]
        rfl
      · unfold FM_mustGo
        show (if σ.1 7 = 0 then _ else _) = _
        rw [if_neg h0', show FM_in (Int32.toInt64 a1) 1 400 = _ from p_in a1 1 400, if_neg hc]
        rfl
def yetV (σL : MS) (c : Nat) (m : Int32) : Int32 := if m = 0 then 1 else if σL.2 2 c = 5 then 1 else if spanV (σL.2 2 c) (σL.1 5) < σL.2 3 (5 * c + 1) + m then 0 else 1
theorem p_lsound {k : Nat} {σL σ : MS} {j q t : Nat} (C : Cn k σL σ j q t) (m : Int32) : FL_soundsAfter σL (nI j) m = some (if σL.2 3 (5 * j + 4) = 1 then 0 else yetV σL j m) := by
  obtain ⟨-, ⟨-, a1, -⟩, -, ⟨-, -, sl, -⟩, ⟨fo, du, -⟩, -⟩ := C
  unfold FL_soundsAfter FL_soundsAfter_38 yetV
  rw [du, fo, a1, sl]
  simp only [Option.bind_some]
  by_cases z1 : σL.2 3 (5 * j + 4) = 1
  · simp only [z1, if_true, one_ne_zero32, if_false]
  by_cases z2 : σL.2 2 j = 5
  · simp only [z1, z2, if_true, one_ne_zero32, if_false, ite_self]
  by_cases z3 : m = 0
  · simp only [z1, z2, z3, if_true, one_ne_zero32, if_false]
  simp only [z1, z2, z3, if_true, one_ne_zero32, if_false]
  by_cases z4 : spanV (σL.2 2 j) (σL.1 5) < σL.2 3 (5 * j + 1) + m
  · simp only [z4, if_true]
  · simp only [z4, if_false]
theorem p_msound {k : Nat} {σL σ : MS} {j q t : Nat} (C : Cn k σL σ j q t) (ag : MS → Int32 → Int32 → Int32 → Int32 → Option (Int32 × MS)) (l1 m l3 s0 : Int32) : FM_sounds_93 ag σ l1 m l3 (nI j) s0 = ag σ l1 m (if s0 = 0 then l3 else l3 + yetV σL j m) (nI (j + 1)) := by
  obtain ⟨-, -, ⟨o0, -, o2, -⟩, ⟨-, -, -, ms⟩, -⟩ := C
  unfold FM_sounds_93 FM_sounds_128 FM_sounds_133 FM_sounds_150 FM_sounds_151 yetV
  rw [o0, o2, ms]
  simp only [Option.bind_some, nm, nI_succ, one_ne_zero32, if_false, if_true]
  by_cases z0 : s0 = 0
  · simp only [z0, if_true, Int32.add_zero, ite_self]
  simp only [z0, if_false, Int32.add_zero]
  by_cases z1 : m = 0
  · simp only [z1, if_true]
  by_cases z2 : σL.2 2 j = 5
  · simp only [z1, z2, if_true, if_false]
  simp only [z1, z2, if_false]
  by_cases z4 : spanV (σL.2 2 j) (σL.1 5) < σL.2 3 (5 * j + 1) + m
  · simp only [z4, if_true, Int32.add_zero]
  · simp only [z4, if_false]
theorem sounds_loop {k : Nat} {σL σ : MS} (h : RReal k (σL.1 4) (σL.1 5) (σL.1 6) (σL.1 7) (σL.2 0) (σL.2 1) (σL.2 2) (σL.2 3) (σ.2 5)) {N : Nat} (hN : N ≤ 12) (e1 : σL.1 7 = nI N) (e2 : σ.2 5 3 = nI N) (l m : Int32) (n : Nat) : ∀ (d c : Nat) (acc : Int32), c + d = N → ∃ r, FL_soundingIn_5 (n + d + 1) σL l m acc (nI c) = some r ∧ FM_sounds_47 (n + d + 1) σ l m acc (nI c) = some (r, σ) := by
  intro d
  induction d with
  | zero =>
    intro c acc hc
    refine ⟨acc, ?_, ?_⟩
    · unfold FL_soundingIn_5
      rw [e1, if_pos (nI_le (by omega) (by omega))]
    · unfold FM_sounds_47
      rw [gd_t (by decide), show Int32.toNatClampNeg 3 = 3 from by decide, e2, if_pos (nI_le (by omega) (by omega))]
  | succ d ih =>
    intro c acc hc
    obtain ⟨q, t, C⟩ := h.cn (j := c) (by omega) (by rw [e1]; exact nI_lt (by omega) (by omega))
    have L1 := p_lsound C m
    have M1 := p_msound C (FM_sounds_47 (n + (d + 1))) l m acc
    obtain ⟨-, -, ⟨-, -, -, o3, -, o5⟩, ⟨lt, mt, -⟩, ⟨-, -, wi⟩, -, -, hd, -⟩ := C
    have hge : ¬ nI N ≤ nI c := nI_ge (by omega) (by omega)
    have L0 : FL_soundingIn_5 (n + (d + 1) + 1) σL l m acc (nI c) = FL_soundingIn_5 (n + (d + 1)) σL l m (if σL.2 3 (5 * c + 2) = 0 ∧ nI t = l ∧ σL.2 3 (5 * c + 4) = 0 then acc + yetV σL c m else acc) (nI (c + 1)) := by
      have y01 : yetV σL c m = 0 ∨ yetV σL c m = 1 := by
        unfold yetV
        split
        · exact Or.inr rfl
        · split
          · exact Or.inr rfl
          · split
            · exact Or.inl rfl
            · exact Or.inr rfl
      conv => lhs; unfold FL_soundingIn_5 FL_soundingIn_46
      rw [wi, lt, L1]
      simp only [e1, hge, if_false, Option.bind_some, nm, ← nI_succ]
      by_cases z1 : σL.2 3 (5 * c + 2) = 0
      · by_cases z2 : nI t = l
        · rcases hd with hd | hd
          · rcases y01 with y | y
            · simp [z1, z2, hd, y]
            · simp [z1, z2, hd, y]
          · simp [z1, z2, hd]
        · simp [z1, z2]
      · simp [z1]
    have M0 : FM_sounds_47 (n + (d + 1) + 1) σ l m acc (nI c) = FM_sounds_47 (n + (d + 1)) σ l m (if σL.2 3 (5 * c + 2) = 0 ∧ nI t = l ∧ σL.2 3 (5 * c + 4) = 0 then acc + yetV σL c m else acc) (nI (c + 1)) := by
      conv => lhs; unfold FM_sounds_47 FM_sounds_92
      rw [gd_t (by decide), show Int32.toNatClampNeg 3 = 3 from by decide, o3, mt, o5]
      simp only [e2, hge, if_false, Option.bind_some, M1]
      by_cases z1 : σL.2 3 (5 * c + 2) = 0
      · by_cases z2 : nI t = l
        · rcases hd with hd | hd
          · simp [z1, z2, hd]
          · simp [z1, z2, hd]
        · simp [z1, z2]
      · simp [z1]
    rw [L0, M0]
    exact ih (c + 1) _ (by omega)
theorem sim_sounds : Sim_sounds Rel := by
  intro k σP σL σG σR σT σC σA σK ω ι σ a1 a2 hk h
  have hm := Rel.mono _ _ _ _ _ _ _ _ _ _ _ _ h
  obtain ⟨et, hR⟩ := h.2.2.2.1
  by_cases h0 : σL.1 4 = 0
  · refine ⟨-1000002, setF σ 0 0, ?_, ?_, hm⟩
    · unfold FP_sounds
      rw [if_pos h0]
    · unfold FM_sounds
      show (if σ.1 7 = 0 then _ else _) = _
      rw [if_pos (by rw [← et]; exact h0)]
  · have h1 : σL.1 4 = 1 := hR.1.resolve_left h0
    have h0' : ¬ σ.1 7 = 0 := by rw [← et]; exact h0
    by_cases hc : 0 ≤ a1 ∧ a1 ≤ 7
    · by_cases hd : 0 ≤ a2 ∧ a2 ≤ 400
      · obtain ⟨N, hN, e1, e2⟩ := hR.num
        obtain ⟨r, i1, i2⟩ := sounds_loop (σ := setF σ 0 0) hR hN e1 e2 a1 a2 (4999 - N) N 0 0 (by omega)
        rw [show 4999 - N + N + 1 = fuelN from by show _ = 5000; omega] at i1 i2
        refine ⟨r, setF σ 0 0, ?_, ?_, hm⟩
        · unfold FP_sounds FL_soundingIn
          rw [if_neg h0, p_outside, if_pos hc, Option.bind_some, if_pos rfl, p_outside, if_pos hd, Option.bind_some, if_pos rfl, show FL_soundingIn_5 fuelN σL a1 a2 0 0 = _ from i1]
          rfl
        · unfold FM_sounds
          show (if σ.1 7 = 0 then _ else _) = _
          rw [if_neg h0', show FM_in (Int32.toInt64 a1) 0 7 = _ from p_in a1 0 7, if_pos hc, Option.bind_some, if_neg one_ne_zero32, show FM_in (Int32.toInt64 a2) 0 400 = _ from p_in a2 0 400, if_pos hd, Option.bind_some, if_neg one_ne_zero32]
          exact i2
      · refine ⟨-1000001, setF σ 0 0, ?_, ?_, hm⟩
        · unfold FP_sounds
          rw [if_neg h0, p_outside, if_pos hc, Option.bind_some, if_pos rfl, p_outside, if_neg hd]
          rfl
        · unfold FM_sounds
          show (if σ.1 7 = 0 then _ else _) = _
          rw [if_neg h0', show FM_in (Int32.toInt64 a1) 0 7 = _ from p_in a1 0 7, if_pos hc, Option.bind_some, if_neg one_ne_zero32, show FM_in (Int32.toInt64 a2) 0 400 = _ from p_in a2 0 400, if_neg hd]
          rfl
    · refine ⟨-1000001, setF σ 0 0, ?_, ?_, hm⟩
      · unfold FP_sounds
        rw [if_neg h0, p_outside, if_neg hc]
        rfl
      · unfold FM_sounds
        show (if σ.1 7 = 0 then _ else _) = _
        rw [if_neg h0', show FM_in (Int32.toInt64 a1) 0 7 = _ from p_in a1 0 7, if_neg hc]
        rfl
