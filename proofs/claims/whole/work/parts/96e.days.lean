/-! PURE: days -/
theorem gA_or (K A H L D : Int32) : gA K A H L D = 0 ∨ gA K A H L D = A ∨ gA K A H L D = A + 1 := by
  unfold gA
  repeat' split
  all_goals first
    | exact Or.inl rfl
    | exact Or.inr (Or.inl rfl)
    | exact Or.inr (Or.inr rfl)
theorem real_cd {k : Nat} {σL : MS} {z g : Nat → Int32} (h : RReal k (σL.1 4) (σL.1 5) (σL.1 6) (σL.1 7) (σL.2 0) (σL.2 1) (σL.2 2) z g) (h1 : σL.1 4 = 1) (x y : Int32) : ∃ N, CD σL (upd z 60 x) (upd g 4 y) N := by
  obtain ⟨N, hN, e1, e2⟩ := h.num
  refine ⟨N, hN, e1, (pk_un (by decide)).trans e2, fun j hj => ?_⟩
  have hl : nI j < σL.1 7 := by rw [e1]; exact nI_lt hj (by omega)
  obtain ⟨q, t, hq, ht1, ht7, c1, c2, -, c3, c4⟩ := h.cf (by omega) hl
  obtain ⟨-, ⟨b0, -⟩, -, -, h5, -, h7⟩ := h
  obtain ⟨g1, -, -, -, g5, g6⟩ := h7 j (by omega) hl
  obtain ⟨w1, w2, -⟩ := h5 h1 t 0 (by omega) (by decide)
  rw [c1, nI_clamp (by omega), c3, nI_clamp (by omega)] at g6
  have eW : wW σL (upd z 60 x) j = σL.2 0 (8 * t) := by
    unfold wW
    rw [pk_un (by omega), c1, nI_clamp (by omega), c3, nI_clamp (by omega)]
  rw [Nat.add_zero, Nat.add_zero] at w1
  rw [Nat.add_zero, Nat.mul_zero, Nat.zero_add] at w2
  refine ⟨q, t, hq, by omega, (pk_un (by omega)).trans c1, c3, by rw [eW, w2], ?_, ?_, (pk_un (by omega)).trans g1.1.symm, (pk_un (by omega)).trans c2, (pk_un (by omega)).trans c4, fun hu => ?_, (pk_un (by decide)).trans b0.symm⟩
  · rw [pk_un (by omega)]; exact g5
  · rw [pk_un (by omega), pk_un (by omega), pk_un (by omega), eW]
    rcases g6 with ⟨s1, s2⟩ | ⟨s1, s2, s3, s4⟩ | ⟨s1, s2⟩
    · exact Or.inl s1
    · exact Or.inr (Or.inl ⟨s1, s2, s4⟩)
    · exact Or.inr (Or.inr s1)
  · rw [pk_un (by omega)] at hu
    rw [pk_un (by omega), eW]
    rcases g6 with ⟨s1, s2⟩ | ⟨s1, s2, s3, s4⟩ | ⟨s1, s2⟩
    · rcases hu with y | y <;> rw [y] at s1 <;> exact absurd s1 (by decide)
    · exact (w1.low s4).1.symm
    · rcases hu with y | y <;> rw [y] at s1 <;> exact absurd s1 (by decide)
theorem real_day {k : Nat} {σL : MS} {z g z' g' : Nat → Int32} (h : RReal k (σL.1 4) (σL.1 5) (σL.1 6) (σL.1 7) (σL.2 0) (σL.2 1) (σL.2 2) z g) (h1 : σL.1 4 = 1) (hd : (g 4).toInt + 1 ≤ 9999) {N : Nat} (e1 : σL.1 7 = nI N) (hN : N ≤ 12)
    (hz : ∀ i, (∀ j, j < N → ¬ (5 * j + 1 ≤ i ∧ i ≤ 5 * j + 4)) → z' i = upd z 60 (z 60 + 1) i) (hg : ∀ i, (∀ j, j < N → ¬ (76 + 6 * j + 1 ≤ i ∧ i ≤ 76 + 6 * j + 4)) → g' i = upd g 4 (g 4 + 1) i)
    (hv : ∀ j, j < N → V4 z' (5 * j) = v2 σL (upd z 60 (z 60 + 1)) j) (hw : ∀ j, j < N → V4 g' (76 + 6 * j) = v2 σL (upd z 60 (z 60 + 1)) j) : RReal k (σL.1 4) (σL.1 5) (σL.1 6) (σL.1 7) (σL.2 0) (σL.2 1) (σL.2 2) z' g' := by
  have hcf := fun {j : Nat} (hj : j < 12) (hl : nI j < σL.1 7) => h.cf hj hl
  obtain ⟨i1, ⟨b0, b2, b3, b4⟩, ⟨m1, m2, m3, m4, m5, m6, m7, m8⟩, i4, i5, i6, i7⟩ := h
  have e0 : (0 : Int32).toInt = 0 := by decide
  have e1' : (1 : Int32).toInt = 1 := by decide
  have e9 : (9999 : Int32).toInt = 9999 := by decide
  have e4 : (400 : Int32).toInt = 400 := by decide
  rw [Int32.le_iff_toInt_le] at m7 m8
  have s4 : (g 4 + 1).toInt = (g 4).toInt + 1 := by
    have := i32_add_toInt (a := g 4) (b := 1) (by omega) (by omega)
    rw [this, e1']
  have G : ∀ i, i < 76 → i ≠ 4 → g' i = g i := fun i hi h4 => (hg i (fun j _ => by omega)).trans (pk_un h4)
  have G4 : g' 4 = g 4 + 1 := (hg 4 (fun j _ => by omega)).trans pk_us
  have Z6 : z' 60 = z 60 + 1 := (hz 60 (fun j _ => by omega)).trans pk_us
  refine ⟨i1, ⟨by rw [G 0 (by decide) (by decide)]; exact b0, by rw [G 2 (by decide) (by decide)]; exact b2, by rw [G 3 (by decide) (by decide)]; exact b3, by rw [Z6, G4, b4]⟩, ⟨m1, m2, m3, m4, m5, m6, ?_, ?_⟩, i4, fun ht p q hp hq => ?_, fun i hi hl => ?_, fun j hj hl => ?_⟩
  · rw [G4, Int32.le_iff_toInt_le]; omega
  · rw [G4, Int32.le_iff_toInt_le]; omega
  · rw [G _ (show 5 + 8 * p + q < 76 by omega) (by omega)]
    exact i5 ht p q hp hq
  · rw [G _ (by omega) (by omega)]
    exact i6 i hi hl
  · have hjN : j < N := by
      rw [e1] at hl
      exact (nI_ltI (by omega) (by omega)).mp hl
    obtain ⟨q, t, hq, ht1, ht7, c1, c2, -, c3, c4⟩ := hcf hj hl
    obtain ⟨f1, f2, f3, f4, f5, f6⟩ := i7 j hj hl
    obtain ⟨w1, w2, w3⟩ := i5 h1 t 0 (by omega) (by decide)
    have w3 := w3 (by omega)
    rw [Nat.add_zero, Nat.add_zero] at w1
    rw [Nat.add_zero] at w3
    rw [c1, nI_clamp (by omega), c3, nI_clamp (by omega)] at f6
    have zq : z' (5 * j) = z (5 * j) := (hz (5 * j) (fun i _ => by omega)).trans (pk_un (by omega))
    have gq : g' (76 + 6 * j) = g (76 + 6 * j) := (hg (76 + 6 * j) (fun i _ => by omega)).trans (pk_un (by omega))
    have gK : g' (75 + 6 * j) = g (75 + 6 * j) := (hg (75 + 6 * j) (fun i _ => by omega)).trans (pk_un (by omega))
    have Vz := hv j hjN
    have Vg := hw j hjN
    have eW : wW σL (upd z 60 (z 60 + 1)) j = σL.2 0 (8 * t) := by
      unfold wW
      rw [pk_un (by omega), c1, nI_clamp (by omega), c3, nI_clamp (by omega)]
    unfold V4 v2 a1 at Vz Vg
    rw [pk_un (show 5 * j + 1 ≠ 60 by omega), pk_un (show 5 * j + 2 ≠ 60 by omega), pk_un (show 5 * j + 3 ≠ 60 by omega), pk_un (show 5 * j + 4 ≠ 60 by omega), eW] at Vz Vg
    simp only [Prod.mk.injEq] at Vz Vg
    obtain ⟨z1, z2, z3, z4⟩ := Vz
    obtain ⟨y1, y2, y3, y4⟩ := Vg
    refine ⟨⟨by rw [gK]; exact f1.1, f1.2⟩, fun f hf => ?_, by rw [zq]; exact f3, ?_, ?_, ?_⟩
    · rcases (show f = 0 ∨ f = 1 ∨ f = 2 ∨ f = 3 ∨ f = 4 by omega) with rfl | rfl | rfl | rfl | rfl
      · rw [Nat.add_zero, Nat.add_zero, zq, gq]
        have := f2 0 (by decide)
        rw [Nat.add_zero, Nat.add_zero] at this
        exact this
      · rw [z1, y1]
      · rw [z2, y2]
      · rw [z3, y3]
      · rw [z4, y4]
    · rw [z1, G4]
      obtain ⟨a0, aB⟩ := f4
      rw [Int32.le_iff_toInt_le] at a0 aB
      have s400 : (400 + g 4).toInt = 400 + (g 4).toInt := by
        have := i32_add_toInt (a := 400) (b := g 4) (by omega) (by omega)
        rw [this, e4]
      have s401 : (400 + (g 4 + 1)).toInt = 401 + (g 4).toInt := by
        have := i32_add_toInt (a := 400) (b := g 4 + 1) (by omega) (by omega)
        rw [this, e4, s4]
        omega
      have sA : (z (5 * j + 1) + 1).toInt = (z (5 * j + 1)).toInt + 1 := by
        have := i32_add_toInt (a := z (5 * j + 1)) (b := 1) (by omega) (by omega)
        rw [this, e1']
      rw [Int32.le_iff_toInt_le, Int32.le_iff_toInt_le, s401]
      rcases gA_or (σL.2 2 j) (z (5 * j + 1)) (z (5 * j + 2)) (z (5 * j + 3)) (z (5 * j + 4)) with y | y | y
      · rw [y]; omega
      · rw [y]; omega
      · rw [y, sA]; omega
    · rw [z4]
      unfold gD
      repeat' split
      all_goals first
        | exact Or.inl rfl
        | exact Or.inr rfl
    · rw [z2, z3, z4, zq, c1, nI_clamp (by omega), c3, nI_clamp (by omega)]
      rcases f6 with ⟨s1, s2⟩ | ⟨s1, s2, s3, s4⟩ | ⟨s1, s2, s3⟩
      · refine Or.inl ⟨?_, ?_⟩
        · unfold gH
          rw [s1, if_neg i_01, if_neg i_02]
        · unfold gL
          rw [s1, if_neg i_01, if_neg i_02, s2]
      · obtain ⟨l1, l2, l3⟩ := w1.low s4
        rw [Int32.le_iff_toInt_le, e1'] at w3
        by_cases hL : z (5 * j + 3) = 1
        · rcases s1 with s1 | s1
          · by_cases hD : z (5 * j + 4) = 1
            · refine Or.inr (Or.inr ⟨?_, ?_, Or.inl ?_⟩)
              · unfold gH
                rw [if_pos s1, if_pos hL, if_pos hD]
              · unfold gL
                rw [if_pos s1, if_pos hL, if_pos hD]
              · unfold gD
                rw [hD, if_neg one_ne_zero32]
            · by_cases hK : σL.2 2 j = 5
              · refine Or.inr (Or.inr ⟨?_, ?_, Or.inr hK⟩)
                · unfold gH
                  rw [if_pos s1, if_pos hL, if_neg hD, if_pos hK]
                · unfold gL
                  rw [if_pos s1, if_pos hL, if_neg hD, if_pos hK]
              · have eH : gH (σL.2 2 j) (z (5 * j + 2)) (z (5 * j + 3)) (z (5 * j + 4)) = 2 := by
                  unfold gH
                  rw [if_pos s1, if_pos hL, if_neg hD, if_neg hK]
                have eL : gL (σL.2 2 j) (z (5 * j + 2)) (z (5 * j + 3)) (z (5 * j + 4)) (σL.2 0 (8 * t)) = σL.2 0 (8 * t) := by
                  unfold gL
                  rw [if_pos s1, if_pos hL, if_neg hD, if_neg hK]
                rw [eH, eL]
                exact Or.inr (Or.inl ⟨Or.inr rfl, w3, by omega, s4⟩)
          · refine Or.inl ⟨?_, ?_⟩
            · unfold gH
              rw [s1, if_neg i_21, if_pos rfl, if_pos hL]
            · unfold gL
              rw [s1, if_neg i_21, if_pos rfl, if_pos hL]
        · have hne : (z (5 * j + 3)).toInt ≠ 1 := fun y => hL (Int32.toInt_inj.mp (y.trans e1'.symm))
          have sL : (z (5 * j + 3) - 1).toInt = (z (5 * j + 3)).toInt - 1 := by
            have hu := Int32.toInt_lt (z (5 * j + 3))
            have := i32_sub_toInt (a := z (5 * j + 3)) (b := 1) (by omega) (by omega)
            rw [this, e1']
          have eL : gL (σL.2 2 j) (z (5 * j + 2)) (z (5 * j + 3)) (z (5 * j + 4)) (σL.2 0 (8 * t)) = z (5 * j + 3) - 1 := by
            unfold gL
            rcases s1 with s1 | s1
            · rw [if_pos s1, if_neg hL]
            · rw [s1, if_neg i_21, if_pos rfl, if_neg hL]
          have eH : gH (σL.2 2 j) (z (5 * j + 2)) (z (5 * j + 3)) (z (5 * j + 4)) = z (5 * j + 2) := by
            unfold gH
            rcases s1 with s1 | s1
            · rw [if_pos s1, if_neg hL, s1]
            · rw [s1, if_neg i_21, if_pos rfl, if_neg hL]
          rw [eH, eL]
          exact Or.inr (Or.inl ⟨s1, by omega, by omega, s4⟩)
      · refine Or.inr (Or.inr ⟨?_, ?_, ?_⟩)
        · unfold gH
          rw [s1, if_neg i_31, if_neg i_32]
        · unfold gL
          rw [s1, if_neg i_31, if_neg i_32, s2]
        · rcases s3 with s3 | s3
          · left
            unfold gD
            rw [s3, if_neg one_ne_zero32]
          · exact Or.inr s3
theorem day_both {k : Nat} {σL σ : MS} {z : Nat → Int32} (h : RReal k (σL.1 4) (σL.1 5) (σL.1 6) (σL.1 7) (σL.2 0) (σL.2 1) (σL.2 2) z (σ.2 5)) (h1 : σL.1 4 = 1) (hd : (σ.2 5 4).toInt + 1 ≤ 9999) (n : Nat) (l1 l2 l3 : Int32) (hl : ¬ l1 ≤ l3) : ∃ (f : Int32) (z' g' : Nat → Int32), FL_liveDay (setR σL 3 z) = some (f, setR σL 3 z') ∧ FM_days_55 (n + 1) σ l1 l2 l3 = FM_days_55 n (setR σ 5 g') l1 (l2 ||| f) (l3 + 1) ∧ RReal k (σL.1 4) (σL.1 5) (σL.1 6) (σL.1 7) (σL.2 0) (σL.2 1) (σL.2 2) z' g' ∧ g' 4 = σ.2 5 4 + 1 := by
  obtain ⟨N, hC⟩ := real_cd h h1 (z 60 + 1) (σ.2 5 4 + 1)
  have hN := hC.1
  have e7 := hC.2.1
  have hrel : ∀ j, j < N → V4 (upd (σ.2 5) 4 (σ.2 5 4 + 1)) (76 + 6 * j) = V4 (upd z 60 (z 60 + 1)) (5 * j) := by
    intro j hj
    have f2 := (h.2.2.2.2.2.2 j (by omega) (by rw [e7]; exact nI_lt hj (by omega))).2.1
    unfold V4
    rw [pk_un (by omega), pk_un (by omega), pk_un (by omega), pk_un (by omega), pk_un (by omega), pk_un (by omega), pk_un (by omega), pk_un (by omega), f2 1 (by decide), f2 2 (by decide), f2 3 (by decide), f2 4 (by decide)]
  obtain ⟨z', p1, p2, p3⟩ := dayL_loop hC (4999 - N) N 0 (upd z 60 (z 60 + 1)) (by omega) (fun j hj => by rw [if_neg (by omega)]) (fun _ _ => rfl)
  obtain ⟨g1, q1, q2, q3⟩ := goes_loop (σ := σ) hC (FM_days_55 n) l1 l2 l3 (4999 - N) N 0 (upd (σ.2 5) 4 (σ.2 5 4 + 1)) (by omega) (fun j hj => by rw [if_neg (by omega)]; exact hrel j hj) (fun _ _ => rfl)
  obtain ⟨g', r1, r2, r3⟩ := fall_loop (σ := σ) hC (FM_days_55 n) l1 l2 l3 (4999 - N) N 0 g1 (by omega) (fun j hj => by rw [if_neg (by omega)]; exact q2 j hj) q3
  rw [show 4999 - N + N + 1 = fuelN from by show _ = 5000; omega] at p1 q1 r1
  refine ⟨fb σL (upd z 60 (z 60 + 1)) N, z', g', ?_, ?_, real_day h h1 hd e7 hN p3 r3 p2 r2, (r3 4 (fun j _ => by omega)).trans pk_us⟩
  · unfold FL_liveDay
    rw [gd_t (by decide), gd_t (by decide), show Int32.toNatClampNeg 60 = 60 from by decide]
    show FL_liveDay_15 fuelN (setA (setR σL 3 z) 3 60 (z 60 + 1)) 0 0 = _
    rw [setA_setR]
    exact p1
  · conv => lhs; unfold FM_days_55
    rw [if_neg hl, gd_t (by decide), gd_t (by decide), show Int32.toNatClampNeg 4 = 4 from by decide]
    show FM_days_73 (FM_days_55 n) fuelN (setR σ 5 (upd (σ.2 5) 4 (σ.2 5 4 + 1))) l1 l2 l3 0 = _
    rw [show FM_days_73 (FM_days_55 n) fuelN (setR σ 5 (upd (σ.2 5) 4 (σ.2 5 4 + 1))) l1 l2 l3 0 = _ from q1, ← r1]
    show FM_days_99 (FM_days_55 n) fuelN (setR σ 5 g1) l1 l2 l3 0 = FM_days_99 (FM_days_55 n) fuelN (setR σ 5 g1) l1 (l2 ||| 0) l3 0
    rw [Int32.or_zero]
theorem days_loop {k m : Nat} {σL σK σ0 : MS} (h1 : σL.1 4 = 1) (hm : m ≤ 99) (n : Nat) : ∀ (d c : Nat) (acc : Int32) (z : Nat → Int32) (σ : MS), c + d = m → SameM σ0 σ → (σ.1 1 = σ0.1 1 ∧ σ.1 12 = σ0.1 12 ∧ σ.1 9 = σ0.1 9 ∧ σ.2 8 = σ0.2 8) → (σ.2 5 4).toInt + d ≤ 9999 →
    RReal k (σL.1 4) (σL.1 5) (σL.1 6) (σL.1 7) (σL.2 0) (σL.2 1) (σL.2 2) z (σ.2 5) →
    ∃ (r : Int32) (z' : Nat → Int32) (σ' : MS), FP_days_62 (n + d + 1) (setR σL 3 z) σK (nI m) acc (nI c) = some (r, setR σL 3 z', σK) ∧ FM_days_55 (n + d + 1) σ (nI m) acc (nI c) = some (r, σ') ∧ SameM σ0 σ' ∧ (σ'.1 1 = σ0.1 1 ∧ σ'.1 12 = σ0.1 12 ∧ σ'.1 9 = σ0.1 9 ∧ σ'.2 8 = σ0.2 8) ∧ RReal k (σL.1 4) (σL.1 5) (σL.1 6) (σL.1 7) (σL.2 0) (σL.2 1) (σL.2 2) z' (σ'.2 5) := by
  intro d
  induction d with
  | zero =>
    intro c acc z σ hc hS hs hd hR
    refine ⟨acc, z, σ, ?_, ?_, hS, hs, hR⟩
    · conv => lhs; unfold FP_days_62
      rw [if_pos (nI_le (by omega) (by omega))]
    · conv => lhs; unfold FM_days_55
      rw [if_pos (nI_le (by omega) (by omega))]
  | succ d ih =>
    intro c acc z σ hc hS hs hd hR
    have hge : ¬ nI m ≤ nI c := nI_ge (by omega) (by omega)
    obtain ⟨f, z', g', p1, p2, p3, p4⟩ := day_both hR h1 (by omega) (n + d + 1) (nI m) acc (nI c) hge
    have L0 : FP_days_62 (n + (d + 1) + 1) (setR σL 3 z) σK (nI m) acc (nI c) = FP_days_62 (n + d + 1) (setR σL 3 z') σK (nI m) (acc ||| f) (nI (c + 1)) := by
      conv => lhs; unfold FP_days_62
      rw [if_neg hge, p1, nI_succ]
      rfl
    rw [← nI_succ] at p2
    rw [L0, show n + (d + 1) + 1 = n + d + 1 + 1 from by omega, p2]
    refine ih (c + 1) (acc ||| f) z' (setR σ 5 g') (by omega) (hS.trans (SameM.R5 _ _)) hs ?_ p3
    show (g' 4).toInt + d ≤ 9999
    have m7 := hR.2.2.1.2.2.2.2.2.2.1
    rw [Int32.le_iff_toInt_le] at m7
    have e0 : (0 : Int32).toInt = 0 := by decide
    have e1' : (1 : Int32).toInt = 1 := by decide
    have := i32_add_toInt (a := σ.2 5 4) (b := 1) (by omega) (by omega)
    rw [p4, this, e1']
    omega
theorem sim_days : Sim_days Rel := by
  intro k σP σL σG σR σT σC σA σK ω ι σ a1 hk h
  have hm := Rel.mono _ _ _ _ _ _ _ _ _ _ _ _ h
  have hh := hm
  obtain ⟨⟨p1, p2⟩, -, -, ⟨et, hR⟩, hA, -⟩ := hh
  by_cases h0 : σL.1 4 = 0
  · refine ⟨-1000002, σL, σK, setF σ 0 0, ?_, ?_, hm⟩
    · unfold FP_days
      rw [if_pos h0]
    · unfold FM_days
      show (if σ.1 7 = 0 then _ else _) = _
      rw [if_pos (by rw [← et]; exact h0)]
  have h1 : σL.1 4 = 1 := hR.1.resolve_left h0
  have h0' : ¬ σ.1 7 = 0 := by rw [← et]; exact h0
  by_cases hc : 1 ≤ a1 ∧ a1 ≤ 99
  · obtain ⟨m, hm9, rfl⟩ := nI_of2 (x := a1) (M := 99) (n := 99) (by decide) (fun z => by
      have := hc.1
      rw [Int32.le_iff_toInt_le] at this
      rw [Int32.lt_iff_toInt_lt] at z
      have e1 : (1 : Int32).toInt = 1 := by decide
      have e2 : (0 : Int32).toInt = 0 := by decide
      omega) hc.2
    have e60 : σL.2 3 60 = σ.2 5 4 := hR.2.1.2.2.2
    obtain ⟨e, he, ee⟩ := nI_of2 (x := σ.2 5 4) (M := 9999) (n := 9999) (by decide) (Int32.not_lt.mpr hR.2.2.1.2.2.2.2.2.2.1) hR.2.2.1.2.2.2.2.2.2.2
    have T0 : FL_today σL = some (nI e) := by
      unfold FL_today
      rw [gd_t (by decide), show Int32.toNatClampNeg 60 = 60 from by decide, e60, ee]
    by_cases hf : e + m ≤ 9999
    · have hle : nI (e + m) ≤ 9999 := nI_le (a := e + m) (b := 9999) hf (by decide)
      obtain ⟨σK', w, ac, K1, K2, K3⟩ := p_keep (σ := setF σ 0 0) hA hR h1
      obtain ⟨r, z', σ', i1, i2, i3, ⟨i4, i5, i6, i7⟩, i8⟩ := days_loop (σL := σL) (σK := σK') (σ0 := setF (setR (setF σ 0 0) 8 w) 9 ac) h1 hm9 (4999 - m) m 0 0 (σL.2 3) (setF (setR (setF σ 0 0) 8 w) 9 ac) (by omega) ⟨fun _ _ _ _ _ => rfl, fun _ _ _ => rfl⟩ ⟨rfl, rfl, rfl, rfl⟩ (by
        show (σ.2 5 4).toInt + m ≤ 9999
        rw [ee, nI_toInt (by omega)]
        omega) hR
      rw [show 4999 - m + m + 1 = fuelN from by show _ = 5000; omega] at i1 i2
      rw [setR_same σL 3 _ rfl] at i1
      refine ⟨r, setR σL 3 z', σK', σ', ?_, ?_, ?_⟩
      · unfold FP_days
        rw [if_neg h0, p_outside, if_pos hc, Option.bind_some, if_pos rfl, T0, Option.bind_some, nI_add, if_pos hle, K1, Option.bind_some]
        exact i1
      · unfold FM_days
        show (if σ.1 7 = 0 then _ else _) = _
        rw [if_neg h0', show FM_in (Int32.toInt64 (nI m)) 1 99 = _ from p_in (nI m) 1 99, if_pos hc, Option.bind_some, if_neg one_ne_zero32, gd_t (by decide), show Int32.toNatClampNeg 4 = 4 from by decide]
        show (if σ.2 5 4 + nI m ≤ 9999 then _ else _) = _
        rw [ee, nI_add, if_pos hle, K2, Option.bind_some]
        exact i2
      · refine h.kr (((SameM.F0 σ).trans (SameM.keep _ _ _)).trans i3) rfl ⟨by rw [i4]; exact p1, by rw [i5]; exact p2⟩ i8 ?_
        rw [i6, i7]
        exact K3
    · have hle : ¬ nI (e + m) ≤ 9999 := nI_ge (a := 9999) (b := e + m) (by omega) (by omega)
      refine ⟨-1000003, σL, σK, setF σ 0 0, ?_, ?_, hm⟩
      · unfold FP_days
        rw [if_neg h0, p_outside, if_pos hc, Option.bind_some, if_pos rfl, T0, Option.bind_some, nI_add, if_neg hle]
      · unfold FM_days
        show (if σ.1 7 = 0 then _ else _) = _
        rw [if_neg h0', show FM_in (Int32.toInt64 (nI m)) 1 99 = _ from p_in (nI m) 1 99, if_pos hc, Option.bind_some, if_neg one_ne_zero32, gd_t (by decide), show Int32.toNatClampNeg 4 = 4 from by decide]
        show (if σ.2 5 4 + nI m ≤ 9999 then _ else _) = _
        rw [ee, nI_add, if_neg hle]
  · refine ⟨-1000001, σL, σK, setF σ 0 0, ?_, ?_, hm⟩
    · unfold FP_days
      rw [if_neg h0, p_outside, if_neg hc]
      rfl
    · unfold FM_days
      show (if σ.1 7 = 0 then _ else _) = _
      rw [if_neg h0', show FM_in (Int32.toInt64 a1) 1 99 = _ from p_in a1 1 99, if_neg hc]
      rfl
