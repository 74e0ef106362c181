/-! PURE: count, save -/
theorem many_loop {k : Nat} {σL σ : MS} (h : RReal k (σL.1 4) (σL.1 5) (σL.1 6) (σL.1 7) (σL.2 0) (σL.2 1) (σL.2 2) (σL.2 3) (σ.2 5)) {N : Nat} (hN : N ≤ 12) (e1 : σL.1 7 = nI N) (e2 : σ.2 5 3 = nI N) (n : Nat) : ∀ (d c : Nat) (acc : Int32), c + d = N → (∃ r, FL_howMany_5 (n + d + 1) σL 4 1 acc (nI c) = some r ∧ FM_count_117 (n + d + 1) σ 5 acc (nI c) = some (r, σ)) ∧ (∃ r, FL_howMany_5 (n + d + 1) σL 2 3 acc (nI c) = some r ∧ FM_count_117 (n + d + 1) σ 6 acc (nI c) = some (r, σ)) := by
  intro d
  induction d with
  | zero =>
    intro c acc hc
    refine ⟨⟨acc, ?_, ?_⟩, ⟨acc, ?_, ?_⟩⟩
    · unfold FL_howMany_5
      rw [e1, if_pos (nI_le (by omega) (by omega))]
    · unfold FM_count_117
      rw [gd_t (by decide), show Int32.toNatClampNeg 3 = 3 from by decide, e2, if_pos (nI_le (by omega) (by omega))]
    · unfold FL_howMany_5
      rw [e1, if_pos (nI_le (by omega) (by omega))]
    · unfold FM_count_117
      rw [gd_t (by decide), show Int32.toNatClampNeg 3 = 3 from by decide, e2, if_pos (nI_le (by omega) (by omega))]
  | succ d ih =>
    intro c acc hc
    obtain ⟨q, t, C⟩ := h.cn (j := c) (by omega) (by rw [e1]; exact nI_lt (by omega) (by omega))
    have hge : ¬ nI N ≤ nI c := nI_ge (by omega) (by omega)
    obtain ⟨-, ⟨-, -, a2, -, a4⟩, ⟨-, -, -, o3, -, o5⟩, -, -, -, -, hd, -⟩ := C
    constructor
    · have L0 : FL_howMany_5 (n + (d + 1) + 1) σL 4 1 acc (nI c) = FL_howMany_5 (n + (d + 1)) σL 4 1 (acc + σL.2 3 (5 * c + 4)) (nI (c + 1)) := by
        conv => lhs; unfold FL_howMany_5 FL_howMany_28
        rw [a4]
        simp only [e1, hge, if_false, Option.bind_some, nm, ← nI_succ]
        rcases hd with hd | hd
        · simp [hd]
        · simp [hd]
      have M0 : FM_count_117 (n + (d + 1) + 1) σ 5 acc (nI c) = FM_count_117 (n + (d + 1)) σ 5 (acc + σL.2 3 (5 * c + 4)) (nI (c + 1)) := by
        conv => lhs; unfold FM_count_117 FM_count_157
        rw [gd_t (by decide), show Int32.toNatClampNeg 3 = 3 from by decide, o5]
        simp only [e2, hge, if_false, Option.bind_some, nm, ← nI_succ, if_true]
      rw [L0, M0]
      exact (ih (c + 1) _ (by omega)).1
    · have L0 : FL_howMany_5 (n + (d + 1) + 1) σL 2 3 acc (nI c) = FL_howMany_5 (n + (d + 1)) σL 2 3 (acc + if σL.2 3 (5 * c + 2) = 3 then 1 else 0) (nI (c + 1)) := by
        conv => lhs; unfold FL_howMany_5 FL_howMany_28
        rw [a2]
        simp only [e1, hge, if_false, Option.bind_some, nm, ← nI_succ]
        by_cases z : σL.2 3 (5 * c + 2) = 3
        · simp [z]
        · simp [z]
      have M0 : FM_count_117 (n + (d + 1) + 1) σ 6 acc (nI c) = FM_count_117 (n + (d + 1)) σ 6 (acc + if σL.2 3 (5 * c + 2) = 3 then 1 else 0) (nI (c + 1)) := by
        conv => lhs; unfold FM_count_117 FM_count_157
        rw [gd_t (by decide), show Int32.toNatClampNeg 3 = 3 from by decide, o3]
        simp only [e2, hge, if_false, Option.bind_some, nm, ← nI_succ, show ¬ (6 : Int32) = 5 from by decide]
        by_cases z : σL.2 3 (5 * c + 2) = 3
        · simp [z]
        · simp [z]
      rw [L0, M0]
      exact (ih (c + 1) _ (by omega)).2
theorem rows_loop {σ : MS} {ω : Nat → MS} (h : RRows ω (σ.2 2) (σ.2 3) (σ.2 4)) (n : Nat) : ∀ (d c : Nat) (acc : Int32), c + d = 8 → ∃ r, FP_rowsThere_4 (n + d + 1) ω acc (nI c) = some r ∧ FM_count_58 (n + d + 1) σ acc (nI c) = some (r, σ) := by
  intro d
  induction d with
  | zero =>
    intro c acc hc
    refine ⟨acc, ?_, ?_⟩
    · unfold FP_rowsThere_4
      rw [if_pos (show (8 : Int32) ≤ nI c from nI_le (a := 8) (b := c) (by omega) (by omega))]
    · unfold FM_count_58
      rw [if_pos (show (8 : Int32) ≤ nI c from nI_le (a := 8) (b := c) (by omega) (by omega))]
  | succ d ih =>
    intro c acc hc
    have hge : ¬ (8 : Int32) ≤ nI c := nI_ge (a := c) (b := 8) (by omega) (by omega)
    obtain ⟨g1, g2⟩ := h c (by omega)
    have L0 : FP_rowsThere_4 (n + (d + 1) + 1) ω acc (nI c) = FP_rowsThere_4 (n + (d + 1)) ω (acc + if σ.2 2 c < 0 then 0 else 1) (nI (c + 1)) := by
      conv => lhs; unfold FP_rowsThere_4 FP_rowsThere_25 FW_missing
      rw [if_neg hge, gd_nI (show c < 8 by omega) (by decide), nI_clamp (by omega), gd_t (show c < 8 by omega), g1]
      simp only [nm, ← nI_succ]
      rcases g2 with g2 | ⟨g2, -⟩
      · rw [g2]
        simp
      · have n1 : ¬ σ.2 2 c = -1 := fun z => by rw [z] at g2; exact m1_neg g2
        have n2 : ¬ σ.2 2 c < 0 := Int32.not_lt.mpr g2
        simp [n1, n2]
    have M0 : FM_count_58 (n + (d + 1) + 1) σ acc (nI c) = FM_count_58 (n + (d + 1)) σ (acc + if σ.2 2 c < 0 then 0 else 1) (nI (c + 1)) := by
      conv => lhs; unfold FM_count_58 FM_count_79
      rw [if_neg hge, gd_nI (show c < 8 by omega) (by decide), nI_clamp (by omega)]
      simp only [nm, ← nI_succ]
      by_cases z : σ.2 2 c < 0
      · simp only [z, if_true]
      · simp only [z, if_false]
    rw [L0, M0]
    exact ih (c + 1) _ (by omega)
theorem sim_count : Sim_count Rel := by
  intro k σP σL σG σR σT σC σA σK ω ι σ a1 hk h
  have hm := Rel.mono _ _ _ _ _ _ _ _ _ _ _ _ h
  obtain ⟨-, hW, hT, ⟨et, hR⟩, hA, -⟩ := h
  unfold FP_count FM_count
  show ∃ (r : Int32) (σ' : MS), _ ∧ (if Int32.toInt a1 < 0 ∨ 7 < Int32.toInt a1 then _ else _) = _ ∧ _
  by_cases hc : Int32.toInt a1 < 0 ∨ 7 < Int32.toInt a1
  · exact ⟨-1000001, setF σ 0 0, by rw [if_pos hc], by rw [if_pos hc], hm⟩
  rw [if_neg hc, if_neg hc]
  obtain ⟨N, hN, e1, e2⟩ := hR.num
  have e : a1 = 0 ∨ a1 = 1 ∨ a1 = 2 ∨ a1 = 3 ∨ a1 = 4 ∨ a1 = 5 ∨ a1 = 6 ∨ a1 = 7 := by
    obtain ⟨f, hf, rfl⟩ := ix7 (x := a1) (by
      rw [Int32.le_iff_toInt_le, Int32.le_iff_toInt_le]
      have e1 : (0 : Int32).toInt = 0 := by decide
      have e2 : (7 : Int32).toInt = 7 := by decide
      omega)
    rcases (show f = 0 ∨ f = 1 ∨ f = 2 ∨ f = 3 ∨ f = 4 ∨ f = 5 ∨ f = 6 ∨ f = 7 by omega) with rfl | rfl | rfl | rfl | rfl | rfl | rfl | rfl <;> decide
  obtain ⟨x0, x1, x2, x3⟩ := hR.2.1
  rcases e with rfl | rfl | rfl | rfl | rfl | rfl | rfl | rfl
  · obtain ⟨r, i1, i2⟩ := rows_loop (σ := setF σ 0 0) hW 4991 8 0 0 (by omega)
    refine ⟨r, setF σ 0 0, ?_, ?_, hm⟩
    · rw [if_pos (by decide)]
      unfold FP_rowsThere
      rw [show FP_rowsThere_4 fuelN ω 0 0 = _ from i1]; rfl
    · rw [if_pos (by decide)]; exact i2
  · refine ⟨σL.1 6, setF σ 0 0, ?_, ?_, hm⟩
    · rw [if_neg (by decide), if_pos (by decide)]
    · rw [if_neg (by decide), if_pos (by decide), gd_t (by decide), x1]; rfl
  · refine ⟨σL.1 7, setF σ 0 0, ?_, ?_, hm⟩
    · rw [if_neg (by decide), if_neg (by decide), if_pos (by decide)]
    · rw [if_neg (by decide), if_neg (by decide), if_pos (by decide), gd_t (by decide), x2]; rfl
  · refine ⟨σL.2 3 60, setF σ 0 0, ?_, ?_, hm⟩
    · rw [if_neg (by decide), if_neg (by decide), if_neg (by decide), if_pos (by decide)]
      unfold FL_today
      rw [gd_t (by decide)]; rfl
    · rw [if_neg (by decide), if_neg (by decide), if_neg (by decide), if_pos (by decide), gd_t (by decide), x3]; rfl
  · obtain ⟨n, q, -, -, g1, g2, -⟩ := hA
    refine ⟨nI n, setF σ 0 0, ?_, ?_, hm⟩
    · rw [if_neg (by decide), if_neg (by decide), if_neg (by decide), if_neg (by decide), if_pos (by decide), g1]
    · rw [if_neg (by decide), if_neg (by decide), if_neg (by decide), if_neg (by decide), if_pos (by decide)]
      show some (σ.1 9, setF σ 0 0) = _
      rw [g2]
  · obtain ⟨r, i1, i2⟩ := (many_loop (σ := setF σ 0 0) hR hN e1 e2 (4999 - N) N 0 0 (by omega)).1
    rw [show 4999 - N + N + 1 = fuelN from by show _ = 5000; omega] at i1 i2
    refine ⟨r, setF σ 0 0, ?_, ?_, hm⟩
    · rw [if_neg (by decide), if_neg (by decide), if_neg (by decide), if_neg (by decide), if_neg (by decide), if_pos (by decide)]
      unfold FL_howMany
      rw [show FL_howMany_5 fuelN σL 4 1 0 0 = _ from i1]; rfl
    · rw [if_neg (by decide), if_neg (by decide), if_neg (by decide), if_neg (by decide), if_neg (by decide), if_pos (by decide)]
      exact i2
  · obtain ⟨r, i1, i2⟩ := (many_loop (σ := setF σ 0 0) hR hN e1 e2 (4999 - N) N 0 0 (by omega)).2
    rw [show 4999 - N + N + 1 = fuelN from by show _ = 5000; omega] at i1 i2
    refine ⟨r, setF σ 0 0, ?_, ?_, hm⟩
    · rw [if_neg (by decide), if_neg (by decide), if_neg (by decide), if_neg (by decide), if_neg (by decide), if_neg (by decide), if_pos (by decide)]
      unfold FL_howMany
      rw [show FL_howMany_5 fuelN σL 2 3 0 0 = _ from i1]; rfl
    · rw [if_neg (by decide), if_neg (by decide), if_neg (by decide), if_neg (by decide), if_neg (by decide), if_neg (by decide), if_pos (by decide)]
      exact i2
  · refine ⟨σT.1 1, setF σ 0 0, ?_, ?_, hm⟩
    · rw [if_neg (by decide), if_neg (by decide), if_neg (by decide), if_neg (by decide), if_neg (by decide), if_neg (by decide), if_neg (by decide), if_pos (by decide)]
    · rw [if_neg (by decide), if_neg (by decide), if_neg (by decide), if_neg (by decide), if_neg (by decide), if_neg (by decide), if_neg (by decide), if_pos (by decide)]
      show some (σ.1 11, setF σ 0 0) = _
      rw [hT.1]
theorem i32_sub_toInt {a b : Int32} (h1 : -2147483648 ≤ a.toInt - b.toInt) (h2 : a.toInt - b.toInt < 2147483648) : (a - b).toInt = a.toInt - b.toInt := by
  rw [Int32.toInt_sub, Int.bmod_eq_of_le (by omega) (by omega)]
theorem atH_low {k : Nat} {σL σ : MS} {j q t : Nat} (hk : k < 512) (h : RReal k (σL.1 4) (σL.1 5) (σL.1 6) (σL.1 7) (σL.2 0) (σL.2 1) (σL.2 2) (σL.2 3) (σ.2 5)) (h1 : σL.1 4 = 1) (C : Cn k σL σ j q t) : atH σL j t < 1000000 := by
  have hb := spanV_b (K := σL.2 2 j) h.2.2.1.1 h.2.2.1.2.1
  have hw := (h.2.2.2.2.1 h1 t 0 C.1.2.2.1 (by decide)).1
  rw [Nat.add_zero, Nat.add_zero] at hw
  have g4 := h.2.2.1.2.2.2.2.2.2
  obtain ⟨a1, a2⟩ := C.2.2.2.2.2.2.2.2
  rw [Int32.le_iff_toInt_le] at a1 a2 g4
  have e0 : (0 : Int32).toInt = 0 := by decide
  have e9 : (9999 : Int32).toInt = 9999 := by decide
  have g4' := h.2.2.1.2.2.2.2.2.2.2
  rw [Int32.le_iff_toInt_le] at g4'
  have e4 : (400 + σ.2 5 4 : Int32).toInt = 400 + (σ.2 5 4).toInt := by
    have e5 : (400 : Int32).toInt = 400 := by decide
    have := i32_add_toInt (a := 400) (b := σ.2 5 4) (by omega) (by omega)
    omega
  have n1 : (-1000000 : Int32) < 1000000 := by decide
  unfold atH
  by_cases z0 : σL.2 3 (5 * j + 2) = 0
  · rw [if_pos z0]
    unfold svL slackV needV
    rw [if_pos z0, show 8 * t + 0 = 8 * t from rfl, ite_self]
    by_cases z1 : σL.2 3 (5 * j + 4) = 1
    · rw [if_pos z1]; exact n1
    rw [if_neg z1]
    by_cases z2 : σL.2 2 j = 5
    · rw [if_pos z2]; exact n1
    rw [if_neg z2]
    by_cases z3 : σL.2 0 (8 * t) < 1000000
    · rw [if_pos z3]
      obtain ⟨-, w1, w2⟩ := hw.low z3
      have i1 := i32_sub_toInt (a := spanV (σL.2 2 j) (σL.1 5)) (b := σL.2 3 (5 * j + 1)) (by omega) (by omega)
      have i2 := i32_sub_toInt (a := spanV (σL.2 2 j) (σL.1 5) - σL.2 3 (5 * j + 1)) (b := σL.2 0 (8 * t)) (by omega) (by omega)
      rw [Int32.lt_iff_toInt_lt, i2, i1]
      have e6 : (1000000 : Int32).toInt = 1000000 := by decide
      omega
    · rw [if_neg z3]; exact n1
  · rw [if_neg z0]; exact n1
theorem press_loop {k : Nat} {σL σ : MS} (hk : k < 512) (h : RReal k (σL.1 4) (σL.1 5) (σL.1 6) (σL.1 7) (σL.2 0) (σL.2 1) (σL.2 2) (σL.2 3) (σ.2 5)) (h1 : σL.1 4 = 1) {N : Nat} (hN : N ≤ 12) (e1 : σL.1 7 = nI N) (e2 : σ.2 5 3 = nI N) (n : Nat) (ag : MS → Int32 → Int32 → Int32 → Option (Int32 × MS)) (l1 l3 set : Int32) : ∀ (d c : Nat) (bit least best : Int32), c + d = N → ((best = -1000000 ∧ bit = 0 ∧ least = 1000000) ∨ (¬ best = -1000000 ∧ bit = 1 <<< (best &&& 31) ∧ FM_slackOf σ best = some least)) → ∃ r, FL_mostPressing_8 (n + d + 1) σL set bit least (nI c) = some r ∧ FM_save_46 ag (n + d + 1) σ l1 set l3 best (nI c) = ag σ l1 (set ||| r) (l3 + 1) := by
  intro d
  induction d with
  | zero =>
    intro c bit least best hc hi
    refine ⟨bit, ?_, ?_⟩
    · unfold FL_mostPressing_8
      rw [e1, if_pos (nI_le (by omega) (by omega))]
    · unfold FM_save_46 FM_save_140
      rw [gd_t (by decide), show Int32.toNatClampNeg 3 = 3 from by decide, e2, if_pos (nI_le (by omega) (by omega))]
      rcases hi with ⟨i1, i2, i3⟩ | ⟨i1, i2, i3⟩
      · rw [if_pos i1, i2]; rfl
      · rw [if_neg i1, i2]; rfl
  | succ d ih =>
    intro c bit least best hc hi
    obtain ⟨q, t, C⟩ := h.cn (j := c) (by omega) (by rw [e1]; exact nI_lt (by omega) (by omega))
    obtain ⟨s1, s2, s3⟩ := p_atH hk h h1 C
    have s4 := atH_low hk h h1 C
    have hge : ¬ nI N ≤ nI c := nI_ge (by omega) (by omega)
    have stay : ∀ P : Prop, (FL_mostPressing_8 (n + (d + 1) + 1) σL set bit least (nI c) = FL_mostPressing_8 (n + (d + 1)) σL set bit least (nI (c + 1)) ∧ FM_save_46 ag (n + (d + 1) + 1) σ l1 set l3 best (nI c) = FM_save_46 ag (n + (d + 1)) σ l1 set l3 best (nI (c + 1))) → ∃ r, FL_mostPressing_8 (n + (d + 1) + 1) σL set bit least (nI c) = some r ∧ FM_save_46 ag (n + (d + 1) + 1) σ l1 set l3 best (nI c) = ag σ l1 (set ||| r) (l3 + 1) := by
      rintro P ⟨f1, f2⟩
      rw [f1, f2]
      exact ih (c + 1) bit least best (by omega) hi
    have go : (FL_mostPressing_8 (n + (d + 1) + 1) σL set bit least (nI c) = FL_mostPressing_8 (n + (d + 1)) σL set (1 <<< (nI c &&& 31)) (atH σL c t) (nI (c + 1)) ∧ FM_save_46 ag (n + (d + 1) + 1) σ l1 set l3 best (nI c) = FM_save_46 ag (n + (d + 1)) σ l1 set l3 (nI c) (nI (c + 1))) → ¬ atH σL c t < 0 → ∃ r, FL_mostPressing_8 (n + (d + 1) + 1) σL set bit least (nI c) = some r ∧ FM_save_46 ag (n + (d + 1) + 1) σ l1 set l3 best (nI c) = ag σ l1 (set ||| r) (l3 + 1) := by
      rintro ⟨f1, f2⟩ z
      rw [f1, f2]
      refine ih (c + 1) _ _ _ (by omega) (Or.inr ⟨fun y => ?_, rfl, s3 z⟩)
      have : ¬ nI c < 0 := nI_pos (by omega)
      rw [y] at this
      exact this (by decide)
    by_cases z1 : atH σL c t < 0
    · refine stay True ⟨?_, ?_⟩
      · conv => lhs; unfold FL_mostPressing_8 FL_mostPressing_53
        rw [s1]
        simp only [e1, hge, if_false, Option.bind_some, nm, ← nI_succ, z1, if_true, ite_self]
      · conv => lhs; unfold FM_save_46 FM_save_79 FM_save_80 FM_save_114 FM_save_116
        rw [gd_t (by decide), show Int32.toNatClampNeg 3 = 3 from by decide, s2]
        simp only [e2, hge, if_false, Option.bind_some, nm, ← nI_succ, z1, if_true]
    by_cases z2 : ((set >>> (nI c &&& 31)) &&& 1) = 0
    · have s3 := s3 z1
      rcases hi with ⟨i1, i2, i3⟩ | ⟨i1, i2, i3⟩
      · refine go ⟨?_, ?_⟩ z1
        · conv => lhs; unfold FL_mostPressing_8 FL_mostPressing_53
          rw [s1]
          simp only [e1, hge, if_false, Option.bind_some, nm, ← nI_succ, z1, z2, if_true, i3, Int32.not_le.mpr s4]
        · conv => lhs; unfold FM_save_46 FM_save_79 FM_save_80 FM_save_109 FM_save_116
          rw [gd_t (by decide), show Int32.toNatClampNeg 3 = 3 from by decide, s2]
          simp only [e2, hge, if_false, Option.bind_some, nm, ← nI_succ, z1, z2, if_true, i1, one_ne_zero32]
      · by_cases z3 : least ≤ atH σL c t
        · refine stay True ⟨?_, ?_⟩
          · conv => lhs; unfold FL_mostPressing_8 FL_mostPressing_53
            rw [s1]
            simp only [e1, hge, if_false, Option.bind_some, nm, ← nI_succ, z1, z2, z3, if_true]
          · conv => lhs; unfold FM_save_46 FM_save_79 FM_save_80 FM_save_114 FM_save_116
            rw [gd_t (by decide), show Int32.toNatClampNeg 3 = 3 from by decide, s2, s3, i3]
            simp only [e2, hge, if_false, Option.bind_some, nm, ← nI_succ, z1, z2, z3, if_true, i1, one_ne_zero32]
        · refine go ⟨?_, ?_⟩ z1
          · conv => lhs; unfold FL_mostPressing_8 FL_mostPressing_53
            rw [s1]
            simp only [e1, hge, if_false, Option.bind_some, nm, ← nI_succ, z1, z2, z3, if_true]
          · conv => lhs; unfold FM_save_46 FM_save_79 FM_save_80 FM_save_109 FM_save_116
            rw [gd_t (by decide), show Int32.toNatClampNeg 3 = 3 from by decide, s2, s3, i3]
            simp only [e2, hge, if_false, Option.bind_some, nm, ← nI_succ, z1, z2, z3, if_true, i1, one_ne_zero32]
    · refine stay True ⟨?_, ?_⟩
      · conv => lhs; unfold FL_mostPressing_8 FL_mostPressing_53
        rw [s1]
        simp only [e1, hge, if_false, Option.bind_some, nm, ← nI_succ, z2]
      · conv => lhs; unfold FM_save_46 FM_save_79 FM_save_80 FM_save_114 FM_save_116
        rw [gd_t (by decide), show Int32.toNatClampNeg 3 = 3 from by decide, s2]
        simp only [e2, hge, if_false, Option.bind_some, nm, ← nI_succ, z1, z2, if_true, one_ne_zero32]
theorem save_loop {k : Nat} {σL σ : MS} (hk : k < 512) (h : RReal k (σL.1 4) (σL.1 5) (σL.1 6) (σL.1 7) (σL.2 0) (σL.2 1) (σL.2 2) (σL.2 3) (σ.2 5)) (h1 : σL.1 4 = 1) {N : Nat} (hN : N ≤ 12) (e1 : σL.1 7 = nI N) (e2 : σ.2 5 3 = nI N) {m : Nat} (hm : m ≤ 12) (n : Nat) : ∀ (d c : Nat) (acc : Int32), c + d = m → ∃ r, FL_coinsForMessengers_4 (n + d + 1) σL (nI m) acc (nI c) = some r ∧ FM_save_34 (n + d + 1) σ (nI m) acc (nI c) = some (r, σ) := by
  intro d
  induction d with
  | zero =>
    intro c acc hc
    refine ⟨acc, ?_, ?_⟩
    · unfold FL_coinsForMessengers_4
      rw [if_pos (nI_le (by omega) (by omega))]
    · unfold FM_save_34
      rw [if_pos (nI_le (by omega) (by omega))]
  | succ d ih =>
    intro c acc hc
    have hge : ¬ nI m ≤ nI c := nI_ge (by omega) (by omega)
    obtain ⟨r, p1, p2⟩ := press_loop hk h h1 hN e1 e2 (4999 - N) (FM_save_34 (n + (d + 1))) (nI m) (nI c) acc N 0 0 1000000 (-1000000) (by omega) (Or.inl ⟨rfl, rfl, rfl⟩)
    rw [show 4999 - N + N + 1 = fuelN from by show _ = 5000; omega] at p1 p2
    have L0 : FL_coinsForMessengers_4 (n + (d + 1) + 1) σL (nI m) acc (nI c) = FL_coinsForMessengers_4 (n + (d + 1)) σL (nI m) (acc ||| r) (nI (c + 1)) := by
      conv => lhs; unfold FL_coinsForMessengers_4 FL_mostPressing
      rw [if_neg hge, show FL_mostPressing_8 fuelN σL acc 0 1000000 0 = _ from p1]
      simp only [Option.bind_some, nm, ← nI_succ]
    have M0 : FM_save_34 (n + (d + 1) + 1) σ (nI m) acc (nI c) = FM_save_34 (n + (d + 1)) σ (nI m) (acc ||| r) (nI (c + 1)) := by
      conv => lhs; unfold FM_save_34
      rw [if_neg hge, show FM_save_46 (FM_save_34 (n + (d + 1))) fuelN σ (nI m) acc (nI c) (-1000000) 0 = _ from p2, ← nI_succ]
    rw [L0, M0]
    exact ih (c + 1) _ (by omega)
theorem sim_save : Sim_save Rel := by
  intro k σP σL σG σR σT σC σA σK ω ι σ a1 hk h
  have hm := Rel.mono _ _ _ _ _ _ _ _ _ _ _ _ h
  obtain ⟨et, hR⟩ := h.2.2.2.1
  by_cases h0 : σL.1 4 = 0
  · refine ⟨-1000002, setF σ 0 0, ?_, ?_, hm⟩
    · unfold FP_save
      rw [if_pos h0]
    · unfold FM_save
      show (if σ.1 7 = 0 then _ else _) = _
      rw [if_pos (by rw [← et]; exact h0)]
  · have h1 : σL.1 4 = 1 := hR.1.resolve_left h0
    have h0' : ¬ σ.1 7 = 0 := by rw [← et]; exact h0
    by_cases hc : 0 ≤ a1 ∧ a1 ≤ 12
    · obtain ⟨N, hN, e1, e2⟩ := hR.num
      obtain ⟨m, hm12, rfl⟩ := nI_of2 (x := a1) (M := 12) (n := 12) (by decide) (Int32.not_lt.mpr hc.1) hc.2
      obtain ⟨r, i1, i2⟩ := save_loop (σ := setF σ 0 0) hk hR h1 hN e1 e2 hm12 (4999 - m) m 0 0 (by omega)
      rw [show 4999 - m + m + 1 = fuelN from by show _ = 5000; omega] at i1 i2
      refine ⟨r, setF σ 0 0, ?_, ?_, hm⟩
      · unfold FP_save FL_coinsForMessengers
        rw [if_neg h0, p_outside, if_pos hc, Option.bind_some, if_pos rfl, show FL_coinsForMessengers_4 fuelN σL (nI m) 0 0 = _ from i1]
        rfl
      · unfold FM_save
        show (if σ.1 7 = 0 then _ else _) = _
        rw [if_neg h0', show FM_in (Int32.toInt64 (nI m)) 0 12 = _ from p_in (nI m) 0 12, if_pos hc, Option.bind_some, if_neg one_ne_zero32]
        exact i2
    · refine ⟨-1000001, setF σ 0 0, ?_, ?_, hm⟩
      · unfold FP_save
        rw [if_neg h0, p_outside, if_neg hc]
        rfl
      · unfold FM_save
        show (if σ.1 7 = 0 then _ else _) = _
        rw [if_neg h0', show FM_in (Int32.toInt64 a1) 0 12 = _ from p_in a1 0 12, if_neg hc]
        rfl
