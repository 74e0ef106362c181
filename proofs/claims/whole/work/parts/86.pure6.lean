/-! PURE: a coin's holder, town, span, slack, on both sides -/
theorem RReal.cf {k : Nat} {told leave holders coins : Int32} {ways towns kinds ch g : Nat → Int32} (h : RReal k told leave holders coins ways towns kinds ch g) {j : Nat} (hj : j < 12) (hl : nI j < coins) : ∃ q t : Nat, q < 6 ∧ 1 ≤ t ∧ t ≤ 7 ∧ ch (5 * j) = nI q ∧ g (76 + 6 * j) = nI q ∧ nI q < holders ∧ towns q = nI t ∧ g (69 + q) = nI t := by
  obtain ⟨-, -, ⟨-, -, b1, b2, -⟩, -, -, ht, hc⟩ := h
  obtain ⟨-, hf, ⟨h1, h2⟩, -⟩ := hc j hj hl
  obtain ⟨q, hq, eq⟩ := nI_of (x := ch (5 * j)) (Int32.not_lt.mpr h1)
  rw [eq] at h2
  have hq6 : q < 6 := by
    have h3 : nI q < nI 6 := by
      rw [Int32.lt_iff_toInt_lt] at h2 ⊢
      rw [Int32.le_iff_toInt_le] at b2
      exact Int.lt_of_lt_of_le h2 b2
    exact (nI_ltI hq (by decide)).mp h3
  obtain ⟨t1, t2, t3⟩ := ht q hq6 h2
  obtain ⟨t, ht7, et⟩ := nI_of2 (x := towns q) (M := 7) (n := 7) (by decide) (fun z => by
    rw [Int32.lt_iff_toInt_lt] at z
    rw [Int32.le_iff_toInt_le] at t2
    have e1 : (1 : Int32).toInt = 1 := by decide
    have e2 : (0 : Int32).toInt = 0 := by decide
    omega) t3
  refine ⟨q, t, hq6, ?_, ht7, eq, ?_, h2, et, ?_⟩
  · rw [et] at t2
    exact (nI_leI (a := 1) (by decide) (by omega)).mp t2
  · have := hf 0 (by decide)
    rw [Nat.add_zero, Nat.add_zero] at this
    rw [← this, eq]
  · rw [← t1, et]
theorem p_ltownOf (σL : MS) {j q t : Nat} (hj : j < 12) (hq : q < 6) (e1 : σL.2 3 (5 * j) = nI q) (e2 : σL.2 1 q = nI t) : FL_townOf σL (nI j) = some (nI t) := by
  unfold FL_townOf
  rw [show FL_about σL (nI j) 0 = _ from p_about σL (c := j) (f := 0) (by omega), Option.bind_some, Nat.add_zero, e1, gd_nI hq (by decide), nI_clamp (by omega), e2]
theorem p_mtownOf (σ : MS) {j q t : Nat} (hj : j < 12) (hq : q < 6) (e1 : σ.2 5 (76 + 6 * j) = nI q) (e2 : σ.2 5 (69 + q) = nI t) : FM_townOf σ (nI j) = some (nI t) := by
  unfold FM_townOf
  have e3 : σ.2 5 (75 + 6 * j + 1) = nI q := by rw [show 75 + 6 * j + 1 = 76 + 6 * j from by omega]; exact e1
  rw [show FM_of σ (nI j) 1 = _ from p_of σ (c := j) (f := 1) (by omega), Option.bind_some, e3, show (69 + nI q : Int32) = nI (69 + q) from by rw [show (69 : Int32) = nI 69 from rfl, nI_add], gd_nI (by omega) (by decide), nI_clamp (by omega), e2]
def spanV (kind leave : Int32) : Int32 := if kind = 4 then leave / 2 else if kind = 2 then leave + leave / 2 else leave
theorem p_lspan (σL : MS) {j : Nat} (hj : j < 12) : FL_spanOf σL (nI j) = some (spanV (σL.2 2 j) (σL.1 5)) := by
  unfold FL_spanOf spanV
  rw [gd_nI hj (by decide), nI_clamp (by omega)]
  by_cases h4 : σL.2 2 j = 4
  · rw [if_pos h4, if_pos h4, gd_t (by decide)]
  · rw [if_neg h4, if_neg h4, gd_cl hj (by decide)]
    by_cases h2 : σL.2 2 j = 2
    · rw [if_pos h2, if_pos h2, gd_t (by decide)]
    · rw [if_neg h2, if_neg h2]
theorem p_mspan (σ : MS) {j : Nat} (hj : j < 12) : FM_spanOf σ (nI j) = some (spanV (σ.2 5 (75 + 6 * j)) (σ.2 5 0)) := by
  unfold FM_spanOf spanV
  rw [show FM_of σ (nI j) 0 = _ from p_of σ (c := j) (f := 0) (by omega), Option.bind_some, Nat.add_zero, show Int32.toNatClampNeg 0 = 0 from by decide]
  by_cases h4 : σ.2 5 (75 + 6 * j) = 4
  · rw [if_pos h4, if_pos h4, gd_t (by decide), gd_t (by decide)]
  · rw [if_neg h4, if_neg h4]
    by_cases h2 : σ.2 5 (75 + 6 * j) = 2
    · rw [if_pos h2, if_pos h2, gd_t (by decide), gd_t (by decide), gd_t (by decide)]
    · rw [if_neg h2, if_neg h2, gd_t (by decide)]
