/-! PURE: sendAll -/
theorem sendA_chk {σP σL σK σ : MS} {ω : Nat → MS} {r i m N : Nat} (hr : r < 8) (hi : i + m ≤ 40) (hN : N ≤ 12) (e1 : σL.1 7 = nI N) (e2 : σ.2 5 3 = nI N) (hit : ∀ x, x < 40 → (ω r).2 0 x = σ.2 4 (40 * r + x)) (n : Nat) : ∀ d c, c + d = m → (∀ x, x < c → ∃ y, y < N ∧ σ.2 4 (40 * r + i + x) = nI y) →
    (FP_sendAll_74 (n + d + 1) σP σL σK ω (nI i) (nI m) r (nI (i + c)) = some (-1000001, σP, σL, σK) ∧ FM_sendAll_81 (n + d + 1) σ (nI r) (nI i) (nI m) (nI c) = some (-1000001, σ)) ∨
    (FP_sendAll_74 (n + d + 1) σP σL σK ω (nI i) (nI m) r (nI (i + c)) = FP_sendAll_112 fuelN σP σL σK ω (nI i) (nI m) r 0 (nI i) ∧ FM_sendAll_81 (n + d + 1) σ (nI r) (nI i) (nI m) (nI c) = FM_sendAll_128 fuelN (setF σ 1 0) (nI r) (nI i) (nI m) 0 0 ∧ ∀ x, x < m → ∃ y, y < N ∧ σ.2 4 (40 * r + i + x) = nI y) := by
  intro d
  induction d with
  | zero =>
    intro c hc hx
    obtain rfl : c = m := by omega
    refine Or.inr ⟨?_, ?_, hx⟩
    · conv => lhs; unfold FP_sendAll_74
      rw [nI_add, if_pos (nI_le (by omega) (by omega))]
    · conv => lhs; unfold FM_sendAll_81
      rw [if_pos (nI_le (by omega) (by omega))]
      rfl
  | succ d ih =>
    intro c hc hx
    have hv := hit (i + c) (by omega)
    rw [← Nat.add_assoc] at hv
    have A : FP_sendAll_74 (n + (d + 1) + 1) σP σL σK ω (nI i) (nI m) r (nI (i + c)) = if 0 ≤ σ.2 4 (40 * r + i + c) ∧ σ.2 4 (40 * r + i + c) ≤ nI N - 1 then FP_sendAll_74 (n + d + 1) σP σL σK ω (nI i) (nI m) r (nI (i + (c + 1))) else some (-1000001, σP, σL, σK) := by
      conv => lhs; unfold FP_sendAll_74
      rw [nI_add, if_neg (nI_ge (by omega) (by omega)), gd_t hr, gd_t hr, gd_nI (show i + c < 40 by omega) (by decide), nI_clamp (by omega), hv, p_noCoin, Option.bind_some, e1]
      by_cases z : 0 ≤ σ.2 4 (40 * r + i + c) ∧ σ.2 4 (40 * r + i + c) ≤ nI N - 1
      · rw [if_pos z, if_pos z, if_pos rfl, ← Nat.add_assoc i c 1, nI_succ]
        rfl
      · rw [if_neg z, if_neg z, if_neg one_ne_zero32]
    have B : FM_sendAll_81 (n + (d + 1) + 1) σ (nI r) (nI i) (nI m) (nI c) = if 0 ≤ σ.2 4 (40 * r + i + c) ∧ σ.2 4 (40 * r + i + c) ≤ nI N - 1 then FM_sendAll_81 (n + d + 1) σ (nI r) (nI i) (nI m) (nI (c + 1)) else some (-1000001, σ) := by
      conv => lhs; unfold FM_sendAll_81
      rw [if_neg (nI_ge (by omega) (by omega)), k40, gd_nI (show 40 * r + i + c < 320 by omega) (by decide), nI_clamp (by omega), p_isCoin, Option.bind_some, e2]
      by_cases z : 0 ≤ σ.2 4 (40 * r + i + c) ∧ σ.2 4 (40 * r + i + c) ≤ nI N - 1
      · rw [if_pos z, if_pos z, if_neg one_ne_zero32, nI_succ]
        rfl
      · rw [if_neg z, if_neg z, if_pos rfl]
    by_cases z : 0 ≤ σ.2 4 (40 * r + i + c) ∧ σ.2 4 (40 * r + i + c) ≤ nI N - 1
    · rw [A, B, if_pos z, if_pos z]
      refine ih (c + 1) (by omega) (fun x hx2 => ?_)
      by_cases hxc : x = c
      · subst hxc
        exact (ixm (by omega)).mp z
      · exact hx x (by omega)
    · rw [A, B, if_neg z, if_neg z]
      exact Or.inl ⟨rfl, rfl⟩
theorem sendA_loop {k : Nat} {σP σ0 : MS} {ω : Nat → MS} {r i m N : Nat} (hr : r < 8) (hi : i + m ≤ 40) (hN : N ≤ 12) (hit : ∀ x, x < 40 → (ω r).2 0 x = σ0.2 4 (40 * r + x)) (hco : ∀ x, x < m → ∃ y, y < N ∧ σ0.2 4 (40 * r + i + x) = nI y) (n : Nat) : ∀ d c (acc : Int32) (σL σK σ : MS), c + d = m → σL.1 4 = 1 → σL.1 7 = nI N → SameM σ0 σ → (σ.1 1 = σ0.1 1 ∧ σ.1 12 = σ0.1 12) →
    RReal k (σL.1 4) (σL.1 5) (σL.1 6) (σL.1 7) (σL.2 0) (σL.2 1) (σL.2 2) (σL.2 3) (σ.2 5) → RActs k σL σK (σ.1 9) (σ.2 8) →
    ∃ (x : Int32) (σL' σK' σ' : MS), FP_sendAll_112 (n + d + 1) σP σL σK ω (nI i) (nI m) r acc (nI (i + c)) = some (x, setF σP 9 0, σL', σK') ∧ FM_sendAll_128 (n + d + 1) σ (nI r) (nI i) (nI m) acc (nI c) = some (x, σ') ∧ σL'.1 4 = 1 ∧ SameM σ0 σ' ∧ (σ'.1 1 = σ0.1 1 ∧ σ'.1 12 = σ0.1 12) ∧
      RReal k (σL'.1 4) (σL'.1 5) (σL'.1 6) (σL'.1 7) (σL'.2 0) (σL'.2 1) (σL'.2 2) (σL'.2 3) (σ'.2 5) ∧ RActs k σL' σK' (σ'.1 9) (σ'.2 8) := by
  intro d
  induction d with
  | zero =>
    intro c acc σL σK σ hc h1 e1 hS hs hR hA
    obtain rfl : c = m := by omega
    refine ⟨acc, σL, σK, σ, ?_, ?_, h1, hS, hs, hR, hA⟩
    · conv => lhs; unfold FP_sendAll_112
      rw [nI_add, if_pos (nI_le (by omega) (by omega))]
      rfl
    · conv => lhs; unfold FM_sendAll_128
      rw [if_pos (nI_le (by omega) (by omega))]
  | succ d ih =>
    intro c acc σL σK σ hc h1 e1 hS hs hR hA
    obtain ⟨y, hy, ey⟩ := hco c (by omega)
    have hv := hit (i + c) (by omega)
    rw [← Nat.add_assoc, ey] at hv
    have hv2 : σ.2 4 (40 * r + i + c) = nI y := by rw [hS.2 4 (by decide) (by decide)]; exact ey
    have hl : nI y < σL.1 7 := by rw [e1]; exact nI_lt hy (by omega)
    obtain ⟨q, t, C⟩ := RReal.cn hR (j := y) (by omega) hl
    obtain ⟨y1, y2⟩ := p_may hR h1 C
    by_cases z : σL.2 3 (5 * y + 2) = 0 ∧ σL.2 0 (8 * t) < 1000000
    · rw [if_pos z] at y1 y2
      obtain ⟨x, zz, σK', σ', s1, s2, s3, s4, ⟨s5, s6⟩, s7, s8⟩ := p_sendKept hA hR h1 hl C z
      have A : FP_sendAll_112 (n + (d + 1) + 1) σP σL σK ω (nI i) (nI m) r acc (nI (i + c)) = FP_sendAll_112 (n + d + 1) σP (setR σL 3 zz) σK' ω (nI i) (nI m) r (acc + 1) (nI (i + (c + 1))) := by
        conv => lhs; unfold FP_sendAll_112 FP_sendAll_154
        rw [nI_add, if_neg (nI_ge (by omega) (by omega)), gd_t hr, gd_t hr, gd_nI (show i + c < 40 by omega) (by decide), nI_clamp (by omega), hv, y1, Option.bind_some, if_neg one_ne_zero32, gd_t hr, gd_t hr, gd_cl (show i + c < 40 by omega) (by decide), s1, ← Nat.add_assoc i c 1, nI_succ]
        rfl
      have B : FM_sendAll_128 (n + (d + 1) + 1) σ (nI r) (nI i) (nI m) acc (nI c) = FM_sendAll_128 (n + d + 1) σ' (nI r) (nI i) (nI m) (acc + 1) (nI (c + 1)) := by
        conv => lhs; unfold FM_sendAll_128 FM_sendAll_176
        rw [if_neg (nI_ge (by omega) (by omega)), k40, gd_nI (show 40 * r + i + c < 320 by omega) (by decide), nI_clamp (by omega), hv2, y2, Option.bind_some, if_neg one_ne_zero32, gd_cl (show 40 * r + i + c < 320 by omega) (by decide), s2, nI_succ]
        rfl
      rw [A, B]
      exact ih (c + 1) (acc + 1) (setR σL 3 zz) σK' σ' (by omega) h1 e1 (hS.trans s4) ⟨s5.trans hs.1, s6.trans hs.2⟩ s7 s8
    · rw [if_neg z] at y1 y2
      have A : FP_sendAll_112 (n + (d + 1) + 1) σP σL σK ω (nI i) (nI m) r acc (nI (i + c)) = FP_sendAll_112 (n + d + 1) σP σL σK ω (nI i) (nI m) r acc (nI (i + (c + 1))) := by
        conv => lhs; unfold FP_sendAll_112 FP_sendAll_154
        rw [nI_add, if_neg (nI_ge (by omega) (by omega)), gd_t hr, gd_t hr, gd_nI (show i + c < 40 by omega) (by decide), nI_clamp (by omega), hv, y1, Option.bind_some, if_pos rfl, ← Nat.add_assoc i c 1, nI_succ]
        rfl
      have B : FM_sendAll_128 (n + (d + 1) + 1) σ (nI r) (nI i) (nI m) acc (nI c) = FM_sendAll_128 (n + d + 1) σ (nI r) (nI i) (nI m) acc (nI (c + 1)) := by
        conv => lhs; unfold FM_sendAll_128 FM_sendAll_176
        rw [if_neg (nI_ge (by omega) (by omega)), k40, gd_nI (show 40 * r + i + c < 320 by omega) (by decide), nI_clamp (by omega), hv2, y2, Option.bind_some, if_pos rfl, nI_succ]
        rfl
      rw [A, B]
      exact ih (c + 1) acc σL σK σ (by omega) h1 e1 hS hs hR hA
theorem sim_sendAll : Sim_sendAll Rel := by
  intro k σP σL σG σR σT σC σA σK ω ι σ a1 a2 a3 hk h
  have hm := Rel.mono _ _ _ _ _ _ _ _ _ _ _ _ h
  obtain ⟨⟨p1, p2⟩, hRo, h3, ⟨et, hR⟩, hA, h6, h7⟩ := Rel.mono _ _ _ _ _ _ _ _ _ _ _ _ h
  by_cases h0 : σL.1 4 = 0
  · refine ⟨-1000002, σP, σL, σK, setF σ 0 0, ?_, ?_, hm⟩
    · unfold FP_sendAll
      rw [if_pos h0]
    · unfold FM_sendAll
      show (if σ.1 7 = 0 then _ else _) = _
      rw [if_pos (by rw [← et]; exact h0)]
  have h1 : σL.1 4 = 1 := hR.1.resolve_left h0
  have h0' : ¬ σ.1 7 = 0 := by rw [← et]; exact h0
  by_cases hc : 0 ≤ a1 ∧ a1 ≤ 7
  · by_cases hd : 1 ≤ a3 ∧ a3 ≤ 12
    · obtain ⟨r, hr, rfl⟩ := ix7 hc
      obtain ⟨m, hm12, rfl⟩ := nI_of2 (x := a3) (M := 12) (n := 12) (by decide) (fun z => by
        have := hd.1
        rw [Int32.le_iff_toInt_le] at this
        rw [Int32.lt_iff_toInt_lt] at z
        have e1 : (1 : Int32).toInt = 1 := by decide
        have e2 : (0 : Int32).toInt = 0 := by decide
        omega) hd.2
      obtain ⟨ea, ea2⟩ := hRo r hr
      have P0 : FP_sendAll σP σL σK ω (nI r) a2 (nI m) = Option.bind (FW_missing (ω r)) fun r7 => if r7 = 0 then (Option.bind (FW_holds (ω r) a2 (nI m)) fun r10 => if r10 = 0 then some (-1000010 - 2, setF σP 9 2, σL, σK) else FP_sendAll_74 fuelN σP σL σK ω a2 (nI m) r a2) else some (-1000010 - 1, setF σP 9 1, σL, σK) := by
        unfold FP_sendAll
        rw [if_neg h0, p_noRow, if_pos hc, Option.bind_some, if_pos rfl, p_outside, if_pos hd, Option.bind_some, if_pos rfl, gd_nI hr (by decide), nI_clamp (by omega)]
        simp only [gd_t hr]
        rfl
      have M0 : FM_sendAll σ (nI r) a2 (nI m) = if 0 ≤ σ.2 2 r then (if a2 < 0 then some (-1000010 - 2, setF (setF σ 0 0) 1 2) else if lg_cmp ((Int32.toInt64 a2) + (Int32.toInt64 (nI m))) (Int32.toInt64 (σ.2 3 r)) ≤ 0 then FM_sendAll_81 fuelN (setF σ 0 0) (nI r) a2 (nI m) 0 else some (-1000010 - 2, setF (setF σ 0 0) 1 2)) else some (-1000010 - 1, setF (setF σ 0 0) 1 1) := by
        unfold FM_sendAll
        show (if σ.1 7 = 0 then _ else _) = _
        rw [if_neg h0', p_isRow, if_pos hc, Option.bind_some, if_neg one_ne_zero32, show FM_in (Int32.toInt64 (nI m)) 1 12 = _ from p_in (nI m) 1 12, if_pos hd, Option.bind_some, if_neg one_ne_zero32]
        simp only [nm, gd_nI hr (show 8 < 2 ^ 31 by decide)]
        rw [nI_clamp (n := r) (by omega)]
        rfl
      rw [p_miss, ea, Option.bind_some] at P0
      rcases ea2 with za | ⟨la, la2, ca, ca0, ca40, ia⟩
      · refine ⟨-1000010 - 1, setF σP 9 1, σL, σK, setF (setF σ 0 0) 1 1, ?_, ?_, ⟨⟨rfl, p2⟩, hRo, h3, ⟨et, hR⟩, hA, h6, h7⟩⟩
        · rw [P0, if_pos za, if_neg one_ne_zero32]
        · rw [M0, if_neg (by rw [za]; exact m1_neg)]
      have na : ¬ σ.2 2 r = -1 := fun z => m1_neg (by rw [z] at la; exact la)
      rw [if_neg na, if_pos rfl] at P0
      rw [if_pos la] at M0
      obtain ⟨ma, hma, ema⟩ := nI_of2 (x := σ.2 3 r) (M := 40) (n := 40) (by decide) (Int32.not_lt.mpr ca0) ca40
      by_cases y2 : a2 < 0
      · rw [p_holds_neg _ _ y2, Option.bind_some, if_pos rfl] at P0
        rw [if_pos y2] at M0
        exact ⟨_, _, _, _, _, P0, M0, ⟨rfl, p2⟩, hRo, h3, ⟨et, hR⟩, hA, h6, h7⟩
      obtain ⟨i, hi, rfl⟩ := nI_of y2
      rw [p_holds (ω r) hi (by omega) (by omega) (ca.trans ema), Option.bind_some] at P0
      rw [if_neg y2, ema, nI_l hi, nI_l (by omega), nI_l (by omega), lN_add] at M0
      by_cases wa : i + m ≤ ma
      · rw [if_pos wa, if_neg one_ne_zero32] at P0
        rw [if_pos (by rw [lg_cmp_le, pk_lLE (by omega) (by omega)]; omega)] at M0
        obtain ⟨N, hN, e1, e2⟩ := hR.num
        have ck := sendA_chk (σP := σP) (σL := σL) (σK := σK) (σ := setF σ 0 0) (ω := ω) (i := i) (m := m) hr (by omega) hN e1 e2 ia (4999 - m) m 0 (by omega) (fun x hx => absurd hx (Nat.not_lt_zero x))
        rw [show 4999 - m + m + 1 = fuelN from by show _ = 5000; omega, Nat.add_zero] at ck
        rcases ck with ⟨k1, k2⟩ | ⟨k1, k2, k3⟩
        · exact ⟨_, _, _, _, _, P0.trans k1, M0.trans k2, hm⟩
        · obtain ⟨x, σL', σK', σ', s1, s2, s3, s4, s5, s6, s7⟩ := sendA_loop (k := k + 1) (σP := σP) (σ0 := setF (setF σ 0 0) 1 0) (ω := ω) (i := i) (m := m) hr (by omega) hN ia k3 (4999 - m) m 0 0 σL σK (setF (setF σ 0 0) 1 0) (by omega) h1 e1 ⟨fun _ _ _ _ _ => rfl, fun _ _ _ => rfl⟩ ⟨rfl, rfl⟩ hR hA
          rw [show 4999 - m + m + 1 = fuelN from by show _ = 5000; omega] at s1 s2
          rw [Nat.add_zero] at s1
          refine ⟨x, setF σP 9 0, σL', σK', σ', (P0.trans k1).trans s1, (M0.trans k2).trans s2, ?_⟩
          exact h.kr (((SameM.F0 σ).trans (SameM.F1 _ _)).trans s4) (s3.trans h1.symm) ⟨s5.1.symm, p2.trans s5.2.symm⟩ s6 s7
      · rw [if_neg wa, if_pos rfl] at P0
        rw [if_neg (by rw [lg_cmp_le, pk_lLE (by omega) (by omega)]; omega)] at M0
        exact ⟨_, _, _, _, _, P0, M0, ⟨rfl, p2⟩, hRo, h3, ⟨et, hR⟩, hA, h6, h7⟩
    · refine ⟨-1000001, σP, σL, σK, setF σ 0 0, ?_, ?_, hm⟩
      · unfold FP_sendAll
        rw [if_neg h0, p_noRow, if_pos hc, Option.bind_some, if_pos rfl, p_outside, if_neg hd]
        rfl
      · unfold FM_sendAll
        show (if σ.1 7 = 0 then _ else _) = _
        rw [if_neg h0', p_isRow, if_pos hc, Option.bind_some, if_neg one_ne_zero32, show FM_in (Int32.toInt64 a3) 1 12 = _ from p_in a3 1 12, if_neg hd]
        rfl
  · refine ⟨-1000001, σP, σL, σK, setF σ 0 0, ?_, ?_, hm⟩
    · unfold FP_sendAll
      rw [if_neg h0, p_noRow, if_neg hc]
      rfl
    · unfold FM_sendAll
      show (if σ.1 7 = 0 then _ else _) = _
      rw [if_neg h0', p_isRow, if_neg hc]
      rfl
