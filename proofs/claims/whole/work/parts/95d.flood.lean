/-! PURE: flood -/
theorem p_under {σL : MS} {c : Nat} {H : Int32} (a2 : FL_about σL (nI c) 2 = some H) : FL_underWay σL (nI c) = some (if H = 1 ∨ H = 2 then 1 else 0) := by
  unfold FL_underWay FL_underWay_20
  rw [a2, Option.bind_some]
  by_cases z1 : H = 1
  · rw [if_pos z1, if_pos (Or.inl z1)]
  · rw [if_neg z1, Option.bind_some]
    by_cases z2 : H = 2
    · rw [if_pos z2, if_pos (Or.inr z2)]
    · rw [if_neg z2, if_neg (fun h => h.elim z1 z2)]
theorem draw1 {x : Nat} (hx : x < 2147483647) : (lN x * 16807 - lN x * 16807 / 2147483647 * 2147483647 : Int64) = lN (x * 16807 % 2147483647) := by
  rw [show (16807 : Int64) = lN 16807 from rfl, lN_mul, show (2147483647 : Int64) = lN 2147483647 from rfl, pk_lRem (by omega) (by decide) (by decide)]
theorem draw2 {y : Nat} (hy : y < 2147483647) : Int64.toInt32 (lN y - lN y / 10 * 10) = nI (y % 10) := by
  rw [show (10 : Int64) = lN 10 from rfl, pk_lRem (by omega) (by decide) (by decide), lN_i]
theorem flood_loop {k N : Nat} (hk : k < 512) {σL σ0 : MS} (h : RReal k (σL.1 4) (σL.1 5) (σL.1 6) (σL.1 7) (σL.2 0) (σL.2 1) (σL.2 2) (σL.2 3) (σ0.2 5)) (hN : N ≤ 12) (e1 : σL.1 7 = nI N) (n : Nat) : ∀ (d c x : Nat) (acc : Int32) (z : Nat → Int32) (σ : MS), c + d = N → x < 2147483647 → SameM σ0 σ → (σ.1 1 = σ0.1 1 ∧ σ.1 12 = σ0.1 12 ∧ σ.1 9 = σ0.1 9 ∧ σ.2 8 = σ0.2 8) →
    RReal (k + 1) (σL.1 4) (σL.1 5) (σL.1 6) (σL.1 7) (σL.2 0) (σL.2 1) (σL.2 2) z (σ.2 5) → (∀ i, 5 * c ≤ i → i < 61 → z i = σL.2 3 i) →
    ∃ (r : Int32) (z' : Nat → Int32) (σ' : MS), FL_holdUp_9 (n + d + 1) (setR σL 3 z) (lN x) acc (nI c) = some (r, setR σL 3 z') ∧ FM_flood_43 (n + d + 1) σ (lN x) acc (nI c) = some (r, σ') ∧ SameM σ0 σ' ∧ (σ'.1 1 = σ0.1 1 ∧ σ'.1 12 = σ0.1 12 ∧ σ'.1 9 = σ0.1 9 ∧ σ'.2 8 = σ0.2 8) ∧ RReal (k + 1) (σL.1 4) (σL.1 5) (σL.1 6) (σL.1 7) (σL.2 0) (σL.2 1) (σL.2 2) z' (σ'.2 5) := by
  intro d
  induction d with
  | zero =>
    intro c x acc z σ hc hx hS hs hR hf
    have e2 : σ.2 5 3 = nI N := hR.2.1.2.2.1.symm.trans e1
    refine ⟨acc, z, σ, ?_, ?_, hS, hs, hR⟩
    · conv => lhs; unfold FL_holdUp_9
      rw [show (setR σL 3 z).1 7 = nI N from e1, if_pos (nI_le (by omega) (by omega))]
    · conv => lhs; unfold FM_flood_43
      rw [gd_t (by decide), show Int32.toNatClampNeg 3 = 3 from by decide, e2, if_pos (nI_le (by omega) (by omega))]
  | succ d ih =>
    intro c x acc z σ hc hx hS hs hR hf
    have e2 : σ.2 5 3 = nI N := hR.2.1.2.2.1.symm.trans e1
    have hge : ¬ nI N ≤ nI c := nI_ge (by omega) (by omega)
    have hl : nI c < σL.1 7 := by rw [e1]; exact nI_lt (by omega) (by omega)
    obtain ⟨q0, t0, C0⟩ := h.cn (j := c) (by omega) hl
    have rh0 := C0.2.2.2.2.2.1
    obtain ⟨q, t, C⟩ := RReal.cn (σL := setR σL 3 z) (σ := σ) hR (j := c) (by omega) hl
    have A2 : FL_about (setR σL 3 z) (nI c) 2 = some (z (5 * c + 2)) := C.2.1.2.2.1
    have A3 : FL_about (setR σL 3 z) (nI c) 3 = some (z (5 * c + 3)) := C.2.1.2.2.2.1
    have O3 : FM_of σ (nI c) 3 = some (z (5 * c + 2)) := C.2.2.1.2.2.2.1
    have O4 : FM_of σ (nI c) 4 = some (z (5 * c + 3)) := C.2.2.1.2.2.2.2.1
    have U := p_under A2
    have hrel := (hR.2.2.2.2.2.2 c (by omega) hl).2.1
    have hho := (hR.2.2.2.2.2.2 c (by omega) hl).2.2.1
    have hag := (hR.2.2.2.2.2.2 c (by omega) hl).2.2.2.1
    have hdu := (hR.2.2.2.2.2.2 c (by omega) hl).2.2.2.2.1
    have rh : RHow (k + 1) (z (5 * c + 2)) (z (5 * c + 3)) (z (5 * c + 4)) (σL.2 2 c) (σL.2 0 (8 * (σL.2 1 (z (5 * c)).toNatClampNeg).toNatClampNeg)) := (hR.2.2.2.2.2.2 c (by omega) hl).2.2.2.2.2
    by_cases hu : z (5 * c + 2) = 1 ∨ z (5 * c + 2) = 2
    · rw [if_pos hu] at U
      have hy : x * 16807 % 2147483647 < 2147483647 := Nat.mod_lt _ (by decide)
      have L0 : FL_holdUp_9 (n + (d + 1) + 1) (setR σL 3 z) (lN x) acc (nI c) = FL_holdUp_9 (n + d + 1) (setR σL 3 (upd z (5 * c + 3) (z (5 * c + 3) + nI (x * 16807 % 2147483647 % 10)))) (lN (x * 16807 % 2147483647)) (acc + (if nI (x * 16807 % 2147483647 % 10) ≤ 0 then 0 else 1)) (nI (c + 1)) := by
        conv => lhs; unfold FL_holdUp_9 FL_holdUp_74 FL_holdUp_77
        rw [show (setR σL 3 z).1 7 = nI N from e1, if_neg hge, U, Option.bind_some, if_neg one_ne_zero32, gd_t (by decide)]
        simp only [nm]
        rw [draw1 hx, gd_t (by decide), draw2 hy, A3, Option.bind_some, show FL_put (setR σL 3 z) (nI c) 3 (z (5 * c + 3) + nI (x * 16807 % 2147483647 % 10)) = _ from p_lput _ (c := c) (f := 3) (by omega) _, Option.bind_some, setA_R, setR_setR, setR_get, ← nI_succ]
        by_cases y : nI (x * 16807 % 2147483647 % 10) ≤ 0
        · rw [if_pos y, if_pos y]
          rfl
        · rw [if_neg y, if_neg y]
          rfl
      have M0 : FM_flood_43 (n + (d + 1) + 1) σ (lN x) acc (nI c) = FM_flood_43 (n + d + 1) (setA σ 5 (75 + 6 * c + 4) (z (5 * c + 3) + nI (x * 16807 % 2147483647 % 10))) (lN (x * 16807 % 2147483647)) (acc + (if nI (x * 16807 % 2147483647 % 10) ≤ 0 then 0 else 1)) (nI (c + 1)) := by
        have M1 : FM_flood_76 (FM_flood_43 (n + (d + 1))) σ (lN x) acc (nI c) = FM_flood_43 (n + d + 1) (setA σ 5 (75 + 6 * c + 4) (z (5 * c + 3) + nI (x * 16807 % 2147483647 % 10))) (lN (x * 16807 % 2147483647)) (acc + (if nI (x * 16807 % 2147483647 % 10) ≤ 0 then 0 else 1)) (nI (c + 1)) := by
          unfold FM_flood_76 FM_flood_123 FM_flood_126
          rw [gd_t (by decide)]
          simp only [nm]
          rw [draw1 hx, gd_t (by decide), draw2 hy, O4, Option.bind_some, show FM_becomes σ (nI c) 4 (z (5 * c + 3) + nI (x * 16807 % 2147483647 % 10)) = _ from p_bec _ (c := c) (f := 4) (by omega) _, Option.bind_some, ← nI_succ]
          by_cases y : nI (x * 16807 % 2147483647 % 10) ≤ 0
          · rw [if_pos y, if_pos y]
            rfl
          · rw [if_neg y, if_neg y]
            rfl
        conv => lhs; unfold FM_flood_43
        rw [gd_t (by decide), show Int32.toNatClampNeg 3 = 3 from by decide, e2, if_neg hge, O3, Option.bind_some]
        rcases hu with y | y
        · rw [if_pos y]
          exact M1
        · rw [if_neg (by rw [y]; decide), Option.bind_some, if_pos y]
          exact M1
      rw [L0, M0]
      have hd9 : x * 16807 % 2147483647 % 10 < 10 := Nat.mod_lt _ (by decide)
      have ez : z (5 * c + 3) = σL.2 3 (5 * c + 3) := hf _ (by omega) (by omega)
      have ez2 : z (5 * c + 2) = σL.2 3 (5 * c + 2) := hf _ (by omega) (by omega)
      have hb : 1 ≤ (z (5 * c + 3)).toInt ∧ (z (5 * c + 3)).toInt ≤ 1000 + 9 * k := by
        rw [← ez2, ← ez] at rh0
        rcases rh0 with ⟨g, -⟩ | ⟨-, g1, g2, -⟩ | ⟨g, -⟩
        · rcases hu with y | y <;> rw [y] at g <;> exact absurd g (by decide)
        · exact ⟨g1, g2⟩
        · rcases hu with y | y <;> rw [y] at g <;> exact absurd g (by decide)
      have hw : σL.2 0 (8 * (σL.2 1 (z (5 * c)).toNatClampNeg).toNatClampNeg) < 1000000 := by
        rcases rh with ⟨g, -⟩ | ⟨-, g1, g2, g3⟩ | ⟨g, -⟩
        · rcases hu with y | y <;> rw [y] at g <;> exact absurd g (by decide)
        · exact g3
        · rcases hu with y | y <;> rw [y] at g <;> exact absurd g (by decide)
      have hsum : (z (5 * c + 3) + nI (x * 16807 % 2147483647 % 10)).toInt = (z (5 * c + 3)).toInt + ((x * 16807 % 2147483647 % 10 : Nat) : Int) := by
        have := i32_add_toInt (a := z (5 * c + 3)) (b := nI (x * 16807 % 2147483647 % 10)) (by rw [nI_toInt (by omega)]; omega) (by rw [nI_toInt (by omega)]; omega)
        rw [this, nI_toInt (by omega)]
      refine ih (c + 1) _ _ _ _ (by omega) hy (hS.trans (SameM.R5 _ _)) hs ?_ (fun i hi1 hi2 => ?_)
      · refine hR.upd (j := c) (by omega) (fun i _ hi => pk_un (by omega)) (fun i _ hi => pk_un (f := σ.2 5) (by omega)) ⟨fun f hf => ?_, ?_, ?_, ?_, ?_⟩
        · show upd z (5 * c + 3) _ (5 * c + f) = upd (σ.2 5) (75 + 6 * c + 4) _ (76 + 6 * c + f)
          by_cases f3 : f = 3
          · subst f3
            rw [show 76 + 6 * c + 3 = 75 + 6 * c + 4 from by omega, pk_us, pk_us]
          · rw [pk_un (by omega), pk_un (by omega)]
            exact hrel f hf
        · rw [pk_un (by omega)]; exact hho
        · rw [pk_un (by omega)]; exact hag
        · rw [pk_un (by omega)]; exact hdu
        · rw [pk_us, pk_un (show 5 * c + 2 ≠ 5 * c + 3 by omega), pk_un (show 5 * c + 4 ≠ 5 * c + 3 by omega), pk_un (show 5 * c ≠ 5 * c + 3 by omega)]
          exact Or.inr (Or.inl ⟨hu, by omega, by omega, hw⟩)
      · rw [pk_un (by omega)]
        exact hf i (by omega) hi2
    · rw [if_neg hu] at U
      have L0 : FL_holdUp_9 (n + (d + 1) + 1) (setR σL 3 z) (lN x) acc (nI c) = FL_holdUp_9 (n + d + 1) (setR σL 3 z) (lN x) acc (nI (c + 1)) := by
        conv => lhs; unfold FL_holdUp_9 FL_holdUp_77
        rw [show (setR σL 3 z).1 7 = nI N from e1, if_neg hge, U, Option.bind_some, if_pos rfl, nI_succ]
        rfl
      have M0 : FM_flood_43 (n + (d + 1) + 1) σ (lN x) acc (nI c) = FM_flood_43 (n + d + 1) σ (lN x) acc (nI (c + 1)) := by
        conv => lhs; unfold FM_flood_43 FM_flood_126
        rw [gd_t (by decide), show Int32.toNatClampNeg 3 = 3 from by decide, e2, if_neg hge, O3, Option.bind_some, if_neg (fun y => hu (Or.inl y)), Option.bind_some, if_neg (fun y => hu (Or.inr y)), nI_succ]
        rfl
      rw [L0, M0]
      exact ih (c + 1) x acc z σ (by omega) hx hS hs hR (fun i hi1 hi2 => hf i (by omega) hi2)
theorem sim_flood : Sim_flood Rel := by
  intro k σP σL σG σR σT σC σA σK ω ι σ a1 hk h
  have hm := Rel.mono _ _ _ _ _ _ _ _ _ _ _ _ h
  have hh := h
  obtain ⟨⟨p1, p2⟩, -, -, ⟨et, hR⟩, hA, -⟩ := hh
  by_cases h0 : σL.1 4 = 0
  · refine ⟨-1000002, σL, σK, setF σ 0 0, ?_, ?_, hm⟩
    · unfold FP_flood
      rw [if_pos h0]
    · unfold FM_flood
      show (if σ.1 7 = 0 then _ else _) = _
      rw [if_pos (by rw [← et]; exact h0)]
  have h1 : σL.1 4 = 1 := hR.1.resolve_left h0
  have h0' : ¬ σ.1 7 = 0 := by rw [← et]; exact h0
  by_cases hc : 1 ≤ a1 ∧ a1 ≤ 999999
  · obtain ⟨s, hs, rfl⟩ := nI_of2 (x := a1) (M := 999999) (n := 999999) (by decide) (fun z => by
      have := hc.1
      rw [Int32.le_iff_toInt_le] at this
      rw [Int32.lt_iff_toInt_lt] at z
      have e1 : (1 : Int32).toInt = 1 := by decide
      have e2 : (0 : Int32).toInt = 0 := by decide
      omega) hc.2
    obtain ⟨N, hN, e1, e2⟩ := hR.num
    obtain ⟨σK', w, ac, K1, K2, K3⟩ := p_keep (σ := setF σ 0 0) hA hR h1
    obtain ⟨r, z', σ', i1, i2, i3, ⟨i4, i5, i6, i7⟩, i8⟩ := flood_loop (σ0 := setF (setR (setF σ 0 0) 8 w) 9 ac) hk hR hN e1 (4999 - N) N 0 s 0 (σL.2 3) (setF (setR (setF σ 0 0) 8 w) 9 ac) (by omega) (by omega) ⟨fun _ _ _ _ _ => rfl, fun _ _ _ => rfl⟩ ⟨rfl, rfl, rfl, rfl⟩ hR.mono (fun _ _ _ => rfl)
    rw [show 4999 - N + N + 1 = fuelN from by show _ = 5000; omega] at i1 i2
    rw [setR_same σL 3 _ rfl] at i1
    refine ⟨r, setR σL 3 z', σK', σ', ?_, ?_, ?_⟩
    · unfold FP_flood FL_holdUp
      rw [if_neg h0, p_outside, if_pos hc, Option.bind_some, if_pos rfl, K1, Option.bind_some, nI_l (by omega)]
      show bd2 (FL_holdUp_9 fuelN σL (lN s) 0 0) _ = _
      rw [show FL_holdUp_9 fuelN σL (lN s) 0 0 = _ from i1]
      rfl
    · unfold FM_flood
      show (if σ.1 7 = 0 then _ else _) = _
      rw [if_neg h0', show FM_in (Int32.toInt64 (nI s)) 1 999999 = _ from p_in (nI s) 1 999999, if_pos hc, Option.bind_some, if_neg one_ne_zero32, K2, Option.bind_some, nI_l (by omega)]
      exact i2
    · refine h.kr (((SameM.F0 σ).trans (SameM.keep _ _ _)).trans i3) rfl ⟨by rw [i4]; exact p1, by rw [i5]; exact p2⟩ i8 ?_
      rw [i6, i7]
      exact K3.mono
  · refine ⟨-1000001, σL, σK, setF σ 0 0, ?_, ?_, hm⟩
    · unfold FP_flood
      rw [if_neg h0, p_outside, if_neg hc]
      rfl
    · unfold FM_flood
      show (if σ.1 7 = 0 then _ else _) = _
      rw [if_neg h0', show FM_in (Int32.toInt64 a1) 1 999999 = _ from p_in a1 1 999999, if_neg hc]
      rfl
