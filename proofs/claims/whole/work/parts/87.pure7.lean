/-! PURE: a coin on both sides; its slack -/
def Cn (k : Nat) (σL σ : MS) (j q t : Nat) : Prop :=
  (j < 12 ∧ q < 6 ∧ t < 8 ∧ 1 ≤ t ∧ σL.2 3 (5 * j) = nI q ∧ σL.2 1 q = nI t) ∧
  (FL_about σL (nI j) 0 = some (nI q) ∧ FL_about σL (nI j) 1 = some (σL.2 3 (5 * j + 1)) ∧ FL_about σL (nI j) 2 = some (σL.2 3 (5 * j + 2)) ∧ FL_about σL (nI j) 3 = some (σL.2 3 (5 * j + 3)) ∧ FL_about σL (nI j) 4 = some (σL.2 3 (5 * j + 4))) ∧
  (FM_of σ (nI j) 0 = some (σL.2 2 j) ∧ FM_of σ (nI j) 1 = some (nI q) ∧ FM_of σ (nI j) 2 = some (σL.2 3 (5 * j + 1)) ∧ FM_of σ (nI j) 3 = some (σL.2 3 (5 * j + 2)) ∧ FM_of σ (nI j) 4 = some (σL.2 3 (5 * j + 3)) ∧ FM_of σ (nI j) 5 = some (σL.2 3 (5 * j + 4))) ∧
  (FL_townOf σL (nI j) = some (nI t) ∧ FM_townOf σ (nI j) = some (nI t) ∧ FL_spanOf σL (nI j) = some (spanV (σL.2 2 j) (σL.1 5)) ∧ FM_spanOf σ (nI j) = some (spanV (σL.2 2 j) (σL.1 5))) ∧
  (FL_forged σL (nI j) = some (if σL.2 2 j = 5 then 1 else 0) ∧ FL_dumb σL (nI j) = some (if σL.2 3 (5 * j + 4) = 1 then 1 else 0) ∧ FL_withHolder σL (nI j) = some (if σL.2 3 (5 * j + 2) = 0 then 1 else 0)) ∧
  (RHow k (σL.2 3 (5 * j + 2)) (σL.2 3 (5 * j + 3)) (σL.2 3 (5 * j + 4)) (σL.2 2 j) (σL.2 0 (8 * t)) ∧ (1 ≤ σL.2 2 j ∧ σL.2 2 j ≤ 5) ∧ (σL.2 3 (5 * j + 4) = 0 ∨ σL.2 3 (5 * j + 4) = 1) ∧ (0 ≤ σL.2 3 (5 * j + 1) ∧ σL.2 3 (5 * j + 1) ≤ 400 + σ.2 5 4))
theorem RReal.cn {k : Nat} {σL σ : MS} (h : RReal k (σL.1 4) (σL.1 5) (σL.1 6) (σL.1 7) (σL.2 0) (σL.2 1) (σL.2 2) (σL.2 3) (σ.2 5)) {j : Nat} (hj : j < 12) (hl : nI j < σL.1 7) : ∃ q t, Cn k σL σ j q t := by
  obtain ⟨q, t, hq, ht1, ht7, e1, e2, hqh, e3, e4⟩ := h.cf hj hl
  obtain ⟨-, ⟨el, -⟩, -, -, -, -, hc⟩ := h
  obtain ⟨⟨k1, k2⟩, hf, -, hag, hd, hrh⟩ := hc j hj hl
  have f0 := hf 0 (by decide)
  have f1 := hf 1 (by decide)
  have f2 := hf 2 (by decide)
  have f3 := hf 3 (by decide)
  have f4 := hf 4 (by decide)
  rw [show 76 + 6 * j + 1 = 75 + 6 * j + 2 from by omega] at f1
  rw [show 76 + 6 * j + 2 = 75 + 6 * j + 3 from by omega] at f2
  rw [show 76 + 6 * j + 3 = 75 + 6 * j + 4 from by omega] at f3
  rw [show 76 + 6 * j + 4 = 75 + 6 * j + 5 from by omega] at f4
  rw [e1, nI_clamp (by omega), e3, nI_clamp (by omega)] at hrh
  have A0 : FL_about σL (nI j) 0 = some (nI q) := by
    rw [show FL_about σL (nI j) 0 = _ from p_about σL (c := j) (f := 0) (by omega), Nat.add_zero, e1]
  have A2 : FL_about σL (nI j) 2 = some (σL.2 3 (5 * j + 2)) := p_about σL (c := j) (f := 2) (by omega)
  have A4 : FL_about σL (nI j) 4 = some (σL.2 3 (5 * j + 4)) := p_about σL (c := j) (f := 4) (by omega)
  refine ⟨q, t, ⟨hj, hq, by omega, ht1, e1, e3⟩, ⟨A0, p_about σL (c := j) (f := 1) (by omega), A2, p_about σL (c := j) (f := 3) (by omega), A4⟩, ⟨?_, ?_, ?_, ?_, ?_, ?_⟩, ⟨p_ltownOf σL hj hq e1 e3, p_mtownOf σ hj hq e2 e4, p_lspan σL hj, ?_⟩, ⟨?_, ?_, ?_⟩, hrh, k2, hd, hag⟩
  · rw [show FM_of σ (nI j) 0 = _ from p_of σ (c := j) (f := 0) (by omega), Nat.add_zero, k1]
  · rw [show FM_of σ (nI j) 1 = _ from p_of σ (c := j) (f := 1) (by omega), show 75 + 6 * j + 1 = 76 + 6 * j from by omega, e2]
  · rw [show FM_of σ (nI j) 2 = _ from p_of σ (c := j) (f := 2) (by omega), f1]
  · rw [show FM_of σ (nI j) 3 = _ from p_of σ (c := j) (f := 3) (by omega), f2]
  · rw [show FM_of σ (nI j) 4 = _ from p_of σ (c := j) (f := 4) (by omega), f3]
  · rw [show FM_of σ (nI j) 5 = _ from p_of σ (c := j) (f := 5) (by omega), f4]
  · rw [p_mspan σ hj, ← k1, ← el]
  · unfold FL_forged
    rw [gd_nI hj (by decide), nI_clamp (by omega)]
    by_cases z : σL.2 2 j = 5
    · rw [if_pos z, if_pos z]
    · rw [if_neg z, if_neg z]
  · unfold FL_dumb
    rw [A4, Option.bind_some]
    by_cases z : σL.2 3 (5 * j + 4) = 1
    · rw [if_pos z, if_pos z]
    · rw [if_neg z, if_neg z]
  · unfold FL_withHolder
    rw [A2, Option.bind_some]
    by_cases z : σL.2 3 (5 * j + 2) = 0
    · rw [if_pos z, if_pos z]
    · rw [if_neg z, if_neg z]
def needV (how left w w2 : Int32) : Int32 := if how = 0 then (if w2 < w then w2 else w) else if how = 2 then left + w else left
def slackV (kind leave age how left dumb w w2 : Int32) : Int32 := if dumb = 1 then -1000000 else if kind = 5 then -1000000 else if needV how left w w2 < 1000000 then spanV kind leave - age - needV how left w w2 else -1000000
def svL (σL : MS) (j t s : Nat) : Int32 := slackV (σL.2 2 j) (σL.1 5) (σL.2 3 (5 * j + 1)) (σL.2 3 (5 * j + 2)) (σL.2 3 (5 * j + 3)) (σL.2 3 (5 * j + 4)) (σL.2 0 (8 * t)) (σL.2 0 (8 * t + s))
theorem one_ne_zero32 : ¬ (1 : Int32) = 0 := by decide
theorem p_lslack {k : Nat} {σL σ : MS} {j q t s : Nat} (C : Cn k σL σ j q t) (hs : s < 8) : FL_slackWithMint σL (nI j) (nI s) = some (svL σL j t s) := by
  obtain ⟨⟨hj, hq, ht, -, -, -⟩, ⟨-, a1, a2, a3, -⟩, -, ⟨tl, -, sl, -⟩, ⟨fo, du, wi⟩, -⟩ := C
  have e0 : (nI t * 8 + 0 : Int32) = nI (8 * t) := by
    rw [show (8 : Int32) = nI 8 from rfl, pk_mul, show (0 : Int32) = nI 0 from rfl, nI_add, Nat.mul_comm, Nat.add_zero]
  have es : (nI t * 8 + nI s : Int32) = nI (8 * t + s) := by
    rw [show (8 : Int32) = nI 8 from rfl, pk_mul, nI_add, Nat.mul_comm]
  have F9 : ∀ x, FL_slackWithMint_90 σL (nI j) x = some (if x < 1000000 then spanV (σL.2 2 j) (σL.1 5) - σL.2 3 (5 * j + 1) - x else -1000000) := by
    intro x
    unfold FL_slackWithMint_90
    rw [sl, a1]
    by_cases z : x < 1000000
    · rw [if_pos z, if_pos z]; rfl
    · rw [if_neg z, if_neg z]
  unfold FL_slackWithMint svL slackV needV
  rw [du, Option.bind_some]
  by_cases z1 : σL.2 3 (5 * j + 4) = 1
  · rw [if_pos z1, if_pos z1, if_neg one_ne_zero32]
  rw [if_neg z1, if_neg z1, if_pos rfl, fo, Option.bind_some]
  by_cases z2 : σL.2 2 j = 5
  · rw [if_pos z2, if_pos z2, if_neg one_ne_zero32]
  rw [if_neg z2, if_neg z2, if_pos rfl, a3, Option.bind_some, tl, Option.bind_some, e0, gd_nI (by omega) (by decide), nI_clamp (by omega), wi]
  simp only [nm, Option.bind_some]
  by_cases z3 : σL.2 3 (5 * j + 2) = 0
  · rw [if_pos z3, if_pos z3, if_neg one_ne_zero32, es, gd_nI (by omega) (by decide), nI_clamp (by omega)]
    exact F9 _
  rw [if_neg z3, if_neg z3, if_pos rfl, a2, Option.bind_some]
  by_cases z4 : σL.2 3 (5 * j + 2) = 2
  · rw [if_pos z4, if_pos z4]
    exact F9 _
  rw [if_neg z4, if_neg z4]
  exact F9 _
theorem i32_add_toInt {a b : Int32} (h1 : -2147483648 ≤ a.toInt + b.toInt) (h2 : a.toInt + b.toInt < 2147483648) : (a + b).toInt = a.toInt + b.toInt := by
  rw [Int32.toInt_add, Int.bmod_eq_of_le (by omega) (by omega)]
theorem low_left {T : Int32} {k : Nat} (hk : k < 512) (h : T.toInt ≤ 1000 + 9 * k) : T < 1000000 := by
  rw [Int32.lt_iff_toInt_lt]
  have e2 : (1000000 : Int32).toInt = 1000000 := by decide
  omega
theorem RWay.low {x y : Int32} (h : RWay x y) (hx : x < 1000000) : x = y ∧ 0 ≤ x.toInt ∧ x.toInt < 1000 := by
  rcases h with ⟨rfl, rfl⟩ | ⟨rfl, h1, h2⟩
  · exact absurd hx (by decide)
  · rw [Int32.le_iff_toInt_le] at h1
    rw [Int32.lt_iff_toInt_lt] at h2
    exact ⟨rfl, h1, h2⟩
theorem p_mslack {k : Nat} {σL σ : MS} {j q t s : Nat} {far : Int32} (hk : k < 512) (C : Cn k σL σ j q t) (hw : σL.2 3 (5 * j + 2) = 0 → RWay (if σL.2 0 (8 * t + s) < σL.2 0 (8 * t) then σL.2 0 (8 * t + s) else σL.2 0 (8 * t)) far) (hw2 : ¬ σL.2 3 (5 * j + 2) = 0 → RWay (σL.2 0 (8 * t)) far) : FM_slackBy σ (nI j) far = some (svL σL j t s) := by
  obtain ⟨-, -, ⟨o0, o1, o2, o3, o4, o5⟩, ⟨-, -, -, ms⟩, -, rh, -⟩ := C
  have F6 : ∀ x, FM_slackBy_67 σ (nI j) x = some (spanV (σL.2 2 j) (σL.1 5) - σL.2 3 (5 * j + 1) - x) := by
    intro x
    unfold FM_slackBy_67
    rw [ms, Option.bind_some, o2, Option.bind_some]
  unfold FM_slackBy svL slackV needV
  rw [o5, Option.bind_some]
  by_cases z1 : σL.2 3 (5 * j + 4) = 1
  · rw [if_pos z1, if_pos z1]
  rw [if_neg z1, if_neg z1, o0, Option.bind_some]
  by_cases z2 : σL.2 2 j = 5
  · rw [if_pos z2, if_pos z2]
  rw [if_neg z2, if_neg z2, o3, Option.bind_some]
  unfold FM_slackBy_40
  rw [o3, Option.bind_some, o4, Option.bind_some, Option.bind_some, F6, F6]
  rcases rh with ⟨h0, h1⟩ | ⟨h0, h1, h2, h3⟩ | ⟨-, -, h | h⟩
  · have hw := hw h0
    have n1 : ¬ σL.2 3 (5 * j + 2) = 1 := by rw [h0]; decide
    rw [if_neg n1, if_neg n1, if_pos h0, h1]
    rcases hw.cases with ⟨w1, w2⟩ | ⟨w1, w2, w3⟩
    · rw [if_neg w1, if_neg (Int32.not_lt.mpr w2)]
    · rw [if_pos w1, if_pos (Int32.not_le.mp w2), w3, Int32.add_zero]
  · have n0 : ¬ σL.2 3 (5 * j + 2) = 0 := by
      rcases h0 with h0 | h0 <;> rw [h0] <;> decide
    have hw2 := hw2 n0
    rw [if_neg n0]
    rcases h0 with h0 | h0
    · rw [if_pos h0, if_pos h0, if_neg (show ¬ σL.2 3 (5 * j + 2) = 2 by rw [h0]; decide), if_pos (low_left hk h2)]
    · have n1 : ¬ σL.2 3 (5 * j + 2) = 1 := by rw [h0]; decide
      rw [if_neg n1, if_neg n1, if_pos h0]
      obtain ⟨w1, w2, w3⟩ := hw2.low h3
      have e : (σL.2 3 (5 * j + 3) + σL.2 0 (8 * t)).toInt = (σL.2 3 (5 * j + 3)).toInt + (σL.2 0 (8 * t)).toInt := i32_add_toInt (by omega) (by omega)
      have l1 : σL.2 3 (5 * j + 3) + σL.2 0 (8 * t) < 1000000 := by
        rw [Int32.lt_iff_toInt_lt, e]
        have e2 : (1000000 : Int32).toInt = 1000000 := by decide
        omega
      have l2 : far < 10000 := by
        rw [Int32.lt_iff_toInt_lt, ← w1]
        have e2 : (10000 : Int32).toInt = 10000 := by decide
        omega
      rw [if_pos l1, if_pos l2, ← w1, Int32.add_comm]
  · exact absurd h z1
  · exact absurd h z2
