/-! PURE: ear -/
theorem ear_free : ∀ (n : Nat) (σ : MS) (l5 l6 l7 l8 l9 : Int32), FM_ear_133 n σ l5 l6 l7 l8 l9 = Option.map (fun p => (p.1, σ)) (FM_ear_133 n s0 l5 l6 l7 l8 l9) := by
  intro n
  induction n with
  | zero => intros; rfl
  | succ n ih =>
    intro σ l5 l6 l7 l8 l9
    have g : ∀ σ x, FM_ear_168 σ l8 x = Option.map (fun p => (p.1, σ)) (FM_ear_168 s0 l8 x) := by
      intro σ x
      unfold FM_ear_168 gd
      by_cases h : l8 = 0
      · rw [if_neg (fun z => z h), if_neg (fun z => z h)]; rfl
      · rw [if_pos h, if_pos h]; rfl
    show (if l9 = 0 then (if l5 = 0 then FM_ear_168 σ l8 l6 else FM_ear_168 σ l8 l7) else gd (¬ l9 = 0) (FM_ear_133 n σ l5 l6 l7 l9 (l8 - l8 / l9 * l9))) = Option.map _ (if l9 = 0 then (if l5 = 0 then FM_ear_168 s0 l8 l6 else FM_ear_168 s0 l8 l7) else gd (¬ l9 = 0) (FM_ear_133 n s0 l5 l6 l7 l9 (l8 - l8 / l9 * l9)))
    by_cases h : l9 = 0
    · rw [if_pos h, if_pos h]
      by_cases h5 : l5 = 0
      · rw [if_pos h5, if_pos h5]; exact g σ l6
      · rw [if_neg h5, if_neg h5]; exact g σ l7
    · rw [if_neg h, if_neg h, gd_t h, gd_t h]
      exact ih σ _ _ _ _ _
def earOK (f e n k w : Nat) : Bool := match FP_ear (nI f) (nI e) (nI n) (nI k) (nI w), FM_ear s0 (nI f) (nI e) (nI n) (nI k) (nI w) with
  | some a, some b => decide (a = b.1)
  | _, _ => false
theorem ear_all : ∀ f, f < 11 → ∀ e, e < 11 → ∀ n, n < 4 → ∀ k, k < n + 1 → ∀ w, w < 2 → earOK f e n k w = true := by decide +kernel
theorem ear_fr (σ : MS) {a1 a2 a3 a4 a5 : Int32} (h1 : 0 ≤ a1 ∧ a1 ≤ 10) (h2 : 0 ≤ a2 ∧ a2 ≤ 10) (h3 : 0 ≤ a3 ∧ a3 ≤ 3) (h4 : 0 ≤ a4 ∧ a4 ≤ a3) (h5 : 0 ≤ a5 ∧ a5 ≤ 1) : FM_ear σ a1 a2 a3 a4 a5 = Option.map (fun p => (p.1, setF σ 0 0)) (FM_ear s0 a1 a2 a3 a4 a5) := by
  unfold FM_ear
  simp only [nm]
  rw [show FM_in (Int32.toInt64 a1) 0 10 = _ from p_in a1 0 10, if_pos h1, Option.bind_some, Option.bind_some, if_neg one_ne_zero32, if_neg one_ne_zero32, show FM_in (Int32.toInt64 a2) 0 10 = _ from p_in a2 0 10, if_pos h2, Option.bind_some, Option.bind_some, if_neg one_ne_zero32, if_neg one_ne_zero32, show FM_in (Int32.toInt64 a3) 0 3 = _ from p_in a3 0 3, if_pos h3, Option.bind_some, Option.bind_some, if_neg one_ne_zero32, if_neg one_ne_zero32, show FM_in (Int32.toInt64 a4) 0 (Int32.toInt64 a3) = _ from p_in a4 0 a3, if_pos h4, Option.bind_some, Option.bind_some, if_neg one_ne_zero32, if_neg one_ne_zero32, show FM_in (Int32.toInt64 a5) 0 1 = _ from p_in a5 0 1, if_pos h5, Option.bind_some, Option.bind_some, if_neg one_ne_zero32, if_neg one_ne_zero32]
  cases FM_timesOf (10 - a2) a4 with
  | none => rfl
  | some r12 =>
  cases FM_timesOf a2 (a3 - a4) with
  | none => rfl
  | some r13 =>
  cases FM_timesOf a2 a4 with
  | none => rfl
  | some r15 =>
  cases FM_timesOf (10 - a2) (a3 - a4) with
  | none => rfl
  | some r16 =>
  simp only [Option.bind_some]
  by_cases z : a1 * r12 * r13 + (10 - a1) * r15 * r16 = 0
  · rw [if_pos z, if_pos z]; rfl
  · rw [if_neg z, if_neg z, ear_free fuelN (setF σ 0 0), ear_free fuelN (setF s0 0 0)]
    cases FM_ear_133 fuelN s0 a5 (a1 * r12 * r13) (a1 * r12 * r13 + (10 - a1) * r15 * r16) (a1 * r12 * r13) (a1 * r12 * r13 + (10 - a1) * r15 * r16) <;> rfl
theorem sim_ear : Sim_ear Rel := by
  intro k σP σL σG σR σT σC σA σK ω ι σ a1 a2 a3 a4 a5 hk h
  have hm := Rel.mono _ _ _ _ _ _ _ _ _ _ _ _ h
  have M0 : FM_ear σ a1 a2 a3 a4 a5 = Option.bind (FM_in (Int32.toInt64 a1) 0 10) _ := rfl
  by_cases h1 : 0 ≤ a1 ∧ a1 ≤ 10
  · by_cases h2 : 0 ≤ a2 ∧ a2 ≤ 10
    · by_cases h3 : 0 ≤ a3 ∧ a3 ≤ 3
      · by_cases h4 : 0 ≤ a4 ∧ a4 ≤ a3
        · by_cases h5 : 0 ≤ a5 ∧ a5 ≤ 1
          · have E := ear_fr σ h1 h2 h3 h4 h5
            obtain ⟨f, hf, rfl⟩ := nI_of2 (x := a1) (M := 10) (n := 10) (by decide) (Int32.not_lt.mpr h1.1) h1.2
            obtain ⟨e, he, rfl⟩ := nI_of2 (x := a2) (M := 10) (n := 10) (by decide) (Int32.not_lt.mpr h2.1) h2.2
            obtain ⟨n, hn, rfl⟩ := nI_of2 (x := a3) (M := 3) (n := 3) (by decide) (Int32.not_lt.mpr h3.1) h3.2
            obtain ⟨j, hj, rfl⟩ := nI_of2 (x := a4) (M := nI n) (n := n) (nI_toInt (by omega)) (Int32.not_lt.mpr h4.1) h4.2
            obtain ⟨w, hw, rfl⟩ := nI_of2 (x := a5) (M := 1) (n := 1) (by decide) (Int32.not_lt.mpr h5.1) h5.2
            have A := ear_all f (by omega) e (by omega) n (by omega) j (by omega) w (by omega)
            unfold earOK at A
            revert A E
            cases FP_ear (nI f) (nI e) (nI n) (nI j) (nI w) with
            | none => intro E A; exact absurd A (by simp)
            | some a =>
              cases FM_ear s0 (nI f) (nI e) (nI n) (nI j) (nI w) with
              | none => intro E A; exact absurd A (by simp)
              | some b =>
                intro E A
                have A : a = b.1 := of_decide_eq_true A
                refine ⟨a, setF σ 0 0, rfl, ?_, hm⟩
                rw [E, A]
                rfl
          · refine ⟨-1000001, setF σ 0 0, ?_, ?_, hm⟩
            · unfold FP_ear
              rw [p_outside, if_pos h1, Option.bind_some, if_pos rfl, p_outside, if_pos h2, Option.bind_some, if_pos rfl, p_outside, if_pos h3, Option.bind_some, if_pos rfl, p_outside, if_pos h4, Option.bind_some, if_pos rfl, p_outside, if_neg h5]
              rfl
            · rw [M0, show FM_in (Int32.toInt64 a1) 0 10 = _ from p_in a1 0 10, if_pos h1, Option.bind_some, if_neg one_ne_zero32, show FM_in (Int32.toInt64 a2) 0 10 = _ from p_in a2 0 10, if_pos h2, Option.bind_some, if_neg one_ne_zero32, show FM_in (Int32.toInt64 a3) 0 3 = _ from p_in a3 0 3, if_pos h3, Option.bind_some, if_neg one_ne_zero32, show FM_in (Int32.toInt64 a4) 0 (Int32.toInt64 a3) = _ from p_in a4 0 a3, if_pos h4, Option.bind_some, if_neg one_ne_zero32, show FM_in (Int32.toInt64 a5) 0 1 = _ from p_in a5 0 1, if_neg h5]
              rfl
        · refine ⟨-1000001, setF σ 0 0, ?_, ?_, hm⟩
          · unfold FP_ear
            rw [p_outside, if_pos h1, Option.bind_some, if_pos rfl, p_outside, if_pos h2, Option.bind_some, if_pos rfl, p_outside, if_pos h3, Option.bind_some, if_pos rfl, p_outside, if_neg h4]
            rfl
          · rw [M0, show FM_in (Int32.toInt64 a1) 0 10 = _ from p_in a1 0 10, if_pos h1, Option.bind_some, if_neg one_ne_zero32, show FM_in (Int32.toInt64 a2) 0 10 = _ from p_in a2 0 10, if_pos h2, Option.bind_some, if_neg one_ne_zero32, show FM_in (Int32.toInt64 a3) 0 3 = _ from p_in a3 0 3, if_pos h3, Option.bind_some, if_neg one_ne_zero32, show FM_in (Int32.toInt64 a4) 0 (Int32.toInt64 a3) = _ from p_in a4 0 a3, if_neg h4]
            rfl
      · refine ⟨-1000001, setF σ 0 0, ?_, ?_, hm⟩
        · unfold FP_ear
          rw [p_outside, if_pos h1, Option.bind_some, if_pos rfl, p_outside, if_pos h2, Option.bind_some, if_pos rfl, p_outside, if_neg h3]
          rfl
        · rw [M0, show FM_in (Int32.toInt64 a1) 0 10 = _ from p_in a1 0 10, if_pos h1, Option.bind_some, if_neg one_ne_zero32, show FM_in (Int32.toInt64 a2) 0 10 = _ from p_in a2 0 10, if_pos h2, Option.bind_some, if_neg one_ne_zero32, show FM_in (Int32.toInt64 a3) 0 3 = _ from p_in a3 0 3, if_neg h3]
          rfl
    · refine ⟨-1000001, setF σ 0 0, ?_, ?_, hm⟩
      · unfold FP_ear
        rw [p_outside, if_pos h1, Option.bind_some, if_pos rfl, p_outside, if_neg h2]
        rfl
      · rw [M0, show FM_in (Int32.toInt64 a1) 0 10 = _ from p_in a1 0 10, if_pos h1, Option.bind_some, if_neg one_ne_zero32, show FM_in (Int32.toInt64 a2) 0 10 = _ from p_in a2 0 10, if_neg h2]
        rfl
  · refine ⟨-1000001, setF σ 0 0, ?_, ?_, hm⟩
    · unfold FP_ear
      rw [p_outside, if_neg h1]
      rfl
    · rw [M0, show FM_in (Int32.toInt64 a1) 0 10 = _ from p_in a1 0 10, if_neg h1]
      rfl
