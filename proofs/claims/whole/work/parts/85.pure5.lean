/-! PURE: far, as -/
theorem p_dist (σL : MS) {a b : Nat} (ha : a < 8) (hb : b < 8) : FL_distance σL (nI a) (nI b) = some (if σL.2 0 (8 * a + b) < 1000000 then σL.2 0 (8 * a + b) else -1000000) := by
  unfold FL_distance
  have e : (nI a * 8 + nI b : Int32) = nI (8 * a + b) := by
    rw [show (8 : Int32) = nI 8 from rfl, pk_mul, nI_add, Nat.mul_comm]
  rw [e, gd_nI (by omega) (by decide), nI_clamp (by omega)]
  show (if σL.2 0 (8 * a + b) < 1000000 then _ else _) = _
  by_cases h : σL.2 0 (8 * a + b) < 1000000
  · rw [if_pos h, if_pos h]
  · rw [if_neg h, if_neg h]
theorem p_farOf (σ : MS) {a b : Nat} (ha : a < 8) (hb : b < 8) : FM_farOf σ (nI a) (nI b) = some (σ.2 5 (5 + 8 * a + b)) := by
  unfold FM_farOf
  have e : (5 + 8 * nI a + nI b : Int32) = nI (5 + 8 * a + b) := by
    rw [show (8 : Int32) = nI 8 from rfl, pk_mul, show (5 : Int32) = nI 5 from rfl, nI_add, nI_add]
  rw [e, gd_nI (by omega) (by decide), nI_clamp (by omega)]
theorem RWay.cases {x y : Int32} (h : RWay x y) : (¬ x < 1000000 ∧ 10000 ≤ y) ∨ (x < 1000000 ∧ ¬ 10000 ≤ y ∧ x = y) := by
  rcases h with ⟨rfl, rfl⟩ | ⟨rfl, h1, h2⟩
  · exact Or.inl (by decide)
  · refine Or.inr ⟨?_, ?_, rfl⟩
    · rw [Int32.lt_iff_toInt_lt] at h2 ⊢
      have e1 : (1000 : Int32).toInt = 1000 := by decide
      have e2 : (1000000 : Int32).toInt = 1000000 := by decide
      omega
    · rw [Int32.lt_iff_toInt_lt] at h2
      rw [Int32.le_iff_toInt_le]
      have e1 : (1000 : Int32).toInt = 1000 := by decide
      have e2 : (10000 : Int32).toInt = 10000 := by decide
      omega
theorem sim_far : Sim_far Rel := by
  intro k σP σL σG σR σT σC σA σK ω ι σ a1 a2 hk h
  have hm := Rel.mono _ _ _ _ _ _ _ _ _ _ _ _ h
  obtain ⟨et, hR⟩ := h.2.2.2.1
  by_cases h0 : σL.1 4 = 0
  · refine ⟨-1000002, setF σ 0 0, ?_, ?_, hm⟩
    · unfold FP_far
      rw [if_pos h0]
    · unfold FM_far
      show (if σ.1 7 = 0 then _ else _) = _
      rw [if_pos (by rw [← et]; exact h0)]
  · have h1 : σL.1 4 = 1 := hR.1.resolve_left h0
    have h0' : ¬ σ.1 7 = 0 := by rw [← et]; exact h0
    have M0 : FM_far σ a1 a2 = Option.bind (FM_in (Int32.toInt64 a1) 0 7) fun (r3 : Int32) => if r3 = 0 then (some ((-1000001), setF σ 0 0)) else (Option.bind (FM_in (Int32.toInt64 a2) 0 7) fun (r5 : Int32) => if r5 = 0 then (some ((-1000001), setF σ 0 0)) else (Option.bind (FM_farOf (setF σ 0 0) a1 a2) fun (r7 : Int32) => if 10000 ≤ r7 then (some ((-1000000), setF σ 0 0)) else (Option.bind (FM_farOf (setF σ 0 0) a1 a2) fun (r9 : Int32) => some (r9, setF σ 0 0)))) := by
      unfold FM_far
      show (if σ.1 7 = 0 then _ else _) = _
      rw [if_neg h0']
    by_cases hc : 0 ≤ a1 ∧ a1 ≤ 7
    · by_cases hd : 0 ≤ a2 ∧ a2 ≤ 7
      · obtain ⟨a, ha, rfl⟩ := ix7 hc
        obtain ⟨b, hb, rfl⟩ := ix7 hd
        have hw := (hR.2.2.2.2.1 h1 a b ha hb).1
        have C0 : FP_far σL (nI a) (nI b) = some (if σL.2 0 (8 * a + b) < 1000000 then σL.2 0 (8 * a + b) else -1000000) := by
          unfold FP_far
          rw [if_neg h0, p_outside, if_pos hc, Option.bind_some, if_pos rfl, p_outside, if_pos hd, Option.bind_some, if_pos rfl, p_dist σL ha hb]
          rfl
        have M1 : FM_far σ (nI a) (nI b) = if 10000 ≤ σ.2 5 (5 + 8 * a + b) then some (-1000000, setF σ 0 0) else some (σ.2 5 (5 + 8 * a + b), setF σ 0 0) := by
          rw [M0, show FM_in (Int32.toInt64 (nI a)) 0 7 = _ from p_in (nI a) 0 7, if_pos hc, Option.bind_some, if_neg (by decide), show FM_in (Int32.toInt64 (nI b)) 0 7 = _ from p_in (nI b) 0 7, if_pos hd, Option.bind_some, if_neg (by decide), p_farOf _ ha hb]
          rfl
        rcases hw.cases with ⟨w1, w2⟩ | ⟨w1, w2, w3⟩
        · refine ⟨-1000000, setF σ 0 0, ?_, ?_, hm⟩
          · rw [C0, if_neg w1]
          · rw [M1, if_pos w2]
        · refine ⟨σL.2 0 (8 * a + b), setF σ 0 0, ?_, ?_, hm⟩
          · rw [C0, if_pos w1]
          · rw [M1, if_neg w2, w3]
      · refine ⟨-1000001, setF σ 0 0, ?_, ?_, hm⟩
        · unfold FP_far
          rw [if_neg h0, p_outside, if_pos hc, Option.bind_some, if_pos rfl, p_outside, if_neg hd]
          rfl
        · rw [M0, show FM_in (Int32.toInt64 a1) 0 7 = _ from p_in a1 0 7, if_pos hc, Option.bind_some, if_neg (by decide), show FM_in (Int32.toInt64 a2) 0 7 = _ from p_in a2 0 7, if_neg hd]
          rfl
    · refine ⟨-1000001, setF σ 0 0, ?_, ?_, hm⟩
      · unfold FP_far
        rw [if_neg h0, p_outside, if_neg hc]
        rfl
      · rw [M0, show FM_in (Int32.toInt64 a1) 0 7 = _ from p_in a1 0 7, if_neg hc]
        rfl
/-- kinds, by all of them -/
theorem p_isOne : ∀ a : Nat, a < 6 → ∀ b : Nat, b < 6 → 1 ≤ a → FK_isOne (nI a) (nI b) = FM_isOf (nI a) (nI b) ∧ (FM_isOf (nI a) (nI b) = some 0 ∨ FM_isOf (nI a) (nI b) = some 1) := by decide +kernel
theorem sim_as : Sim_as Rel := by
  intro k σP σL σG σR σT σC σA σK ω ι σ a1 a2 hk h
  obtain ⟨⟨p1, p2⟩, hrest⟩ := Rel.mono _ _ _ _ _ _ _ _ _ _ _ _ h
  obtain ⟨ec, hco⟩ := h.coin
  have hm : Rel (k + 1) σP σL σG σR σT σC σA σK ω ι σ := ⟨⟨p1, p2⟩, hrest⟩
  by_cases hc : 0 ≤ a1 ∧ a1 ≤ σL.1 7 - 1
  · obtain ⟨j, hj, rfl, hl⟩ := hco hc
    have hc' : 0 ≤ nI j ∧ nI j ≤ (setF σ 0 0).2 5 3 - 1 := by
      show 0 ≤ nI j ∧ nI j ≤ σ.2 5 3 - 1
      rw [ec]; exact hc
    by_cases hd : 0 ≤ a2 ∧ a2 ≤ 5
    · obtain ⟨⟨g1, g2, g3⟩, -⟩ := h.2.2.2.1.2.2.2.2.2.2.2 j hj hl
      obtain ⟨w, hw, rfl⟩ := nI_of2 (x := a2) (M := 5) (n := 5) (by decide) (Int32.not_lt.mpr hd.1) hd.2
      obtain ⟨q, hq, eq⟩ := nI_of2 (x := σL.2 2 j) (M := 5) (n := 5) (by decide) (fun z => by
        rw [Int32.lt_iff_toInt_lt] at z
        rw [Int32.le_iff_toInt_le] at g2
        have e1 : (1 : Int32).toInt = 1 := by decide
        have e2 : (0 : Int32).toInt = 0 := by decide
        omega) g3
      have hq1 : 1 ≤ q := by
        rw [eq] at g2
        exact (nI_leI (a := 1) (by decide) (by omega)).mp g2
      obtain ⟨i1, i2⟩ := p_isOne q (by omega) w (by omega) hq1
      have C0 : FP_as σP σL (nI j) (nI w) = Option.bind (FM_isOf (nI q) (nI w)) fun r6 => if r6 = 0 then some (-1000010 - 3, setF σP 9 3) else some (nI j, setF σP 9 0) := by
        unfold FP_as
        rw [p_noCoin, if_pos hc, Option.bind_some, if_pos rfl, p_outside, if_pos hd, Option.bind_some, if_pos rfl, gd_nI hj (by decide), nI_clamp (by omega), eq, i1]
        rfl
      have M0 : FM_as σ (nI j) (nI w) = Option.bind (FM_isOf (nI q) (nI w)) fun r8 => if r8 = 0 then some (-1000010 - 3, setF (setF (setF σ 0 0) 1 0) 1 3) else some (nI j, setF (setF σ 0 0) 1 0) := by
        unfold FM_as
        show Option.bind (FM_isCoin (setF σ 0 0) (nI j)) _ = _
        rw [p_isCoin, if_pos hc', Option.bind_some, if_neg (by decide), show FM_in (Int32.toInt64 (nI w)) 0 5 = _ from p_in (nI w) 0 5, if_pos hd, Option.bind_some, if_neg (by decide)]
        show Option.bind (FM_of (setF (setF σ 0 0) 1 0) (nI j) (nI 0)) _ = _
        rw [p_of _ (by omega)]
        show Option.bind (FM_isOf (σ.2 5 (75 + 6 * j)) (nI w)) _ = _
        rw [← g1, eq]
        rfl
      rcases i2 with i2 | i2
      · refine ⟨-1000010 - 3, setF σP 9 3, setF (setF (setF σ 0 0) 1 0) 1 3, ?_, ?_, ⟨⟨rfl, p2⟩, hrest⟩⟩
        · rw [C0, i2]; rfl
        · rw [M0, i2]; rfl
      · refine ⟨nI j, setF σP 9 0, setF (setF σ 0 0) 1 0, ?_, ?_, ⟨⟨rfl, p2⟩, hrest⟩⟩
        · rw [C0, i2]; rfl
        · rw [M0, i2]; rfl
    · refine ⟨-1000001, σP, setF σ 0 0, ?_, ?_, hm⟩
      · unfold FP_as
        rw [p_noCoin, if_pos hc, Option.bind_some, if_pos rfl, p_outside, if_neg hd]
        rfl
      · unfold FM_as
        show Option.bind (FM_isCoin (setF σ 0 0) (nI j)) _ = _
        rw [p_isCoin, if_pos hc', Option.bind_some, if_neg (by decide), show FM_in (Int32.toInt64 a2) 0 5 = _ from p_in a2 0 5, if_neg hd]
        rfl
  · refine ⟨-1000001, σP, setF σ 0 0, ?_, ?_, hm⟩
    · unfold FP_as
      rw [p_noCoin, if_neg hc]
      rfl
    · unfold FM_as
      show Option.bind (FM_isCoin (setF σ 0 0) a1) _ = _
      rw [p_isCoin, if_neg (by show ¬ (0 ≤ a1 ∧ a1 ≤ σ.2 5 3 - 1); rw [ec]; exact hc)]
      rfl
