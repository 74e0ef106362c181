def zidx : List Nat := [61, 81, 93, 99, 114, 118, 120, 122, 124]
set_option maxHeartbeats 4000000 in
set_option maxRecDepth 100000 in
theorem zz_start {s : State} {b : Nat} (hts : ∀ w ∈ lw_tbl, w.before #[Value.ref b] s = true) (hgv : (Jvm.Cond.and given_1 narrow_1).before #[Value.ref b] s = true) : ∃ t : Nat → Nat, ZZ t (fun q : Nat => s.heap.size ≤ q) s := by
  have hf := flat_of_before _ hgv
  have hA9 : ∀ a : Nat, a < s.heap.size → ¬ (fun q : Nat => s.heap.size ≤ q) a := fun a h => Nat.not_le.mpr h
  obtain ⟨t0, ev0, hT0⟩ := va_Tof (s := s) (args := #[Value.ref b]) (tm := (.static RX3 "NEXT" "[I")) (ty := .int) (N := 6) (f := fun j => .int (zNEXT j)) (A := (fun q : Nat => s.heap.size ≤ q)) (by decide) (hf (.arrayOf (.static RX3 "NEXT" "[I") .int) (by decide +kernel)) (va_eqt (hf (.eq (.length (.static RX3 "NEXT" "[I")) (.int 6)) (by decide +kernel))) (fun j hj => by
    rcases (show j = 0 ∨ j = 1 ∨ j = 2 ∨ j = 3 ∨ j = 4 ∨ j = 5 by omega) with rfl | rfl | rfl | rfl | rfl | rfl
    · exact va_eqt (hf (.eq (.elem (.static RX3 "NEXT" "[I") (.int 0)) (.int (-1))) (by decide +kernel))
    · exact va_eqt (hf (.eq (.elem (.static RX3 "NEXT" "[I") (.int 1)) (.int (0))) (by decide +kernel))
    · exact va_eqt (hf (.eq (.elem (.static RX3 "NEXT" "[I") (.int 2)) (.int (1))) (by decide +kernel))
    · exact va_eqt (hf (.eq (.elem (.static RX3 "NEXT" "[I") (.int 3)) (.int (1))) (by decide +kernel))
    · exact va_eqt (hf (.eq (.elem (.static RX3 "NEXT" "[I") (.int 4)) (.int (3))) (by decide +kernel))
    · exact va_eqt (hf (.eq (.elem (.static RX3 "NEXT" "[I") (.int 5)) (.int (0))) (by decide +kernel))) hA9
  have hz0 := va_Zref (hts (.laysStatic RX3 "NEXT" "[I") (by decide +kernel)) (hts (.initialized RX3) (by decide +kernel)) ev0 hA9
  obtain ⟨t1, ev1, hT1⟩ := va_Tof (s := s) (args := #[Value.ref b]) (tm := (.static RX1 "SIZE_BODIES" "[I")) (ty := .int) (N := 6) (f := fun j => .int (zSIZE j)) (A := (fun q : Nat => s.heap.size ≤ q)) (by decide) (hf (.arrayOf (.static RX1 "SIZE_BODIES" "[I") .int) (by decide +kernel)) (va_eqt (hf (.eq (.length (.static RX1 "SIZE_BODIES" "[I")) (.int 6)) (by decide +kernel))) (fun j hj => by
    rcases (show j = 0 ∨ j = 1 ∨ j = 2 ∨ j = 3 ∨ j = 4 ∨ j = 5 by omega) with rfl | rfl | rfl | rfl | rfl | rfl
    · exact va_eqt (hf (.eq (.elem (.static RX1 "SIZE_BODIES" "[I") (.int 0)) (.int (10))) (by decide +kernel))
    · exact va_eqt (hf (.eq (.elem (.static RX1 "SIZE_BODIES" "[I") (.int 1)) (.int (11))) (by decide +kernel))
    · exact va_eqt (hf (.eq (.elem (.static RX1 "SIZE_BODIES" "[I") (.int 2)) (.int (12))) (by decide +kernel))
    · exact va_eqt (hf (.eq (.elem (.static RX1 "SIZE_BODIES" "[I") (.int 3)) (.int (0))) (by decide +kernel))
    · exact va_eqt (hf (.eq (.elem (.static RX1 "SIZE_BODIES" "[I") (.int 4)) (.int (14))) (by decide +kernel))
    · exact va_eqt (hf (.eq (.elem (.static RX1 "SIZE_BODIES" "[I") (.int 5)) (.int (13))) (by decide +kernel))) hA9
  have hz1 := va_Zref (hts (.laysStatic RX1 "SIZE_BODIES" "[I") (by decide +kernel)) (hts (.initialized RX1) (by decide +kernel)) ev1 hA9
  obtain ⟨t2, ev2, hT2⟩ := va_Tof (s := s) (args := #[Value.ref b]) (tm := (.static RX1 "MARK_BODIES" "[I")) (ty := .int) (N := 6) (f := fun j => .int (zMARK j)) (A := (fun q : Nat => s.heap.size ≤ q)) (by decide) (hf (.arrayOf (.static RX1 "MARK_BODIES" "[I") .int) (by decide +kernel)) (va_eqt (hf (.eq (.length (.static RX1 "MARK_BODIES" "[I")) (.int 6)) (by decide +kernel))) (fun j hj => by
    rcases (show j = 0 ∨ j = 1 ∨ j = 2 ∨ j = 3 ∨ j = 4 ∨ j = 5 by omega) with rfl | rfl | rfl | rfl | rfl | rfl
    · exact va_eqt (hf (.eq (.elem (.static RX1 "MARK_BODIES" "[I") (.int 0)) (.int (20))) (by decide +kernel))
    · exact va_eqt (hf (.eq (.elem (.static RX1 "MARK_BODIES" "[I") (.int 1)) (.int (21))) (by decide +kernel))
    · exact va_eqt (hf (.eq (.elem (.static RX1 "MARK_BODIES" "[I") (.int 2)) (.int (0))) (by decide +kernel))
    · exact va_eqt (hf (.eq (.elem (.static RX1 "MARK_BODIES" "[I") (.int 3)) (.int (22))) (by decide +kernel))
    · exact va_eqt (hf (.eq (.elem (.static RX1 "MARK_BODIES" "[I") (.int 4)) (.int (24))) (by decide +kernel))
    · exact va_eqt (hf (.eq (.elem (.static RX1 "MARK_BODIES" "[I") (.int 5)) (.int (23))) (by decide +kernel))) hA9
  have hz2 := va_Zref (hts (.laysStatic RX1 "MARK_BODIES" "[I") (by decide +kernel)) (hts (.initialized RX1) (by decide +kernel)) ev2 hA9
  have hcs := va_Zof (A := (fun q : Nat => s.heap.size ≤ q)) (hts (.laysStatic "java/lang/String" "COMPACT_STRINGS" "Z") (by decide +kernel)) (hts (.initialized "java/lang/String") (by decide +kernel)) (va_eqt (hf (.eq (.static "java/lang/String" "COMPACT_STRINGS" "Z") (.int 1)) (by decide +kernel))) hA9
  have hsi := va_Zqof (A := (fun q : Nat => s.heap.size ≤ q)) (hts (.laysStatic "jdk/internal/util/Preconditions" "SIOOBE_FORMATTER" "Ljava/util/function/BiFunction;") (by decide +kernel)) (hts (.initialized "jdk/internal/util/Preconditions") (by decide +kernel)) (hf (.isRef (.static "jdk/internal/util/Preconditions" "SIOOBE_FORMATTER" "Ljava/util/function/BiFunction;")) (by decide +kernel)) hA9
  obtain ⟨adK, adV, hks, hke⟩ := vk_Sof (s := s) (args := #[Value.ref b]) (N := 9) (tm := fun i => .string RX4 (zidx.getD i 0)) (len := zlen) (byt := zbyt) (A := (fun q : Nat => s.heap.size ≤ q)) (by decide) (fun i hi => by
    rcases (show (i = 0 ∨ i = 1 ∨ i = 2 ∨ i = 3 ∨ i = 4 ∨ i = 5 ∨ i = 6 ∨ i = 7 ∨ i = 8) by omega) with rfl | rfl | rfl | rfl | rfl | rfl | rfl | rfl | rfl <;> exact hf _ (by decide +kernel)) (fun i hi => by
    rcases (show (i = 0 ∨ i = 1 ∨ i = 2 ∨ i = 3 ∨ i = 4 ∨ i = 5 ∨ i = 6 ∨ i = 7 ∨ i = 8) by omega) with rfl | rfl | rfl | rfl | rfl | rfl | rfl | rfl | rfl <;> exact hf _ (by decide +kernel)) (fun i hi => by
    rcases (show (i = 0 ∨ i = 1 ∨ i = 2 ∨ i = 3 ∨ i = 4 ∨ i = 5 ∨ i = 6 ∨ i = 7 ∨ i = 8) by omega) with rfl | rfl | rfl | rfl | rfl | rfl | rfl | rfl | rfl <;> exact hf _ (by decide +kernel)) (fun i hi => by
    rcases (show (i = 0 ∨ i = 1 ∨ i = 2 ∨ i = 3 ∨ i = 4 ∨ i = 5 ∨ i = 6 ∨ i = 7 ∨ i = 8) by omega) with rfl | rfl | rfl | rfl | rfl | rfl | rfl | rfl | rfl <;> exact hf _ (by decide +kernel)) (fun i hi j hj => by
    rcases (show (i = 0 ∨ i = 1 ∨ i = 2 ∨ i = 3 ∨ i = 4 ∨ i = 5 ∨ i = 6 ∨ i = 7 ∨ i = 8) by omega) with rfl | rfl | rfl | rfl | rfl | rfl | rfl | rfl | rfl
    · have hj : j < 3 := hj
      rcases (show (j = 0 ∨ j = 1 ∨ j = 2) by omega) with rfl | rfl | rfl <;> exact hf _ (by decide +kernel)
    · have hj : j < 4 := hj
      rcases (show (j = 0 ∨ j = 1 ∨ j = 2 ∨ j = 3) by omega) with rfl | rfl | rfl | rfl <;> exact hf _ (by decide +kernel)
    · have hj : j < 6 := hj
      rcases (show (j = 0 ∨ j = 1 ∨ j = 2 ∨ j = 3 ∨ j = 4 ∨ j = 5) by omega) with rfl | rfl | rfl | rfl | rfl | rfl <;> exact hf _ (by decide +kernel)
    · have hj : j < 4 := hj
      rcases (show (j = 0 ∨ j = 1 ∨ j = 2 ∨ j = 3) by omega) with rfl | rfl | rfl | rfl <;> exact hf _ (by decide +kernel)
    · have hj : j < 4 := hj
      rcases (show (j = 0 ∨ j = 1 ∨ j = 2 ∨ j = 3) by omega) with rfl | rfl | rfl | rfl <;> exact hf _ (by decide +kernel)
    · have hj : j < 6 := hj
      rcases (show (j = 0 ∨ j = 1 ∨ j = 2 ∨ j = 3 ∨ j = 4 ∨ j = 5) by omega) with rfl | rfl | rfl | rfl | rfl | rfl <;> exact hf _ (by decide +kernel)
    · have hj : j < 6 := hj
      rcases (show (j = 0 ∨ j = 1 ∨ j = 2 ∨ j = 3 ∨ j = 4 ∨ j = 5) by omega) with rfl | rfl | rfl | rfl | rfl | rfl <;> exact hf _ (by decide +kernel)
    · have hj : j < 6 := hj
      rcases (show (j = 0 ∨ j = 1 ∨ j = 2 ∨ j = 3 ∨ j = 4 ∨ j = 5) by omega) with rfl | rfl | rfl | rfl | rfl | rfl <;> exact hf _ (by decide +kernel)
    · have hj : j < 3 := hj
      rcases (show (j = 0 ∨ j = 1 ∨ j = 2) by omega) with rfl | rfl | rfl <;> exact hf _ (by decide +kernel)) (fun i j hi hj hij => by
    rcases Nat.lt_or_gt_of_ne hij with h | h
    · refine Or.inl ?_
      rcases (show (i = 0 ∨ i = 1 ∨ i = 2 ∨ i = 3 ∨ i = 4 ∨ i = 5 ∨ i = 6 ∨ i = 7 ∨ i = 8) by omega) with rfl | rfl | rfl | rfl | rfl | rfl | rfl | rfl | rfl <;> rcases (show (j = 0 ∨ j = 1 ∨ j = 2 ∨ j = 3 ∨ j = 4 ∨ j = 5 ∨ j = 6 ∨ j = 7 ∨ j = 8) by omega) with rfl | rfl | rfl | rfl | rfl | rfl | rfl | rfl | rfl <;> first | exact hf _ (by decide +kernel) | omega
    · refine Or.inr ?_
      rcases (show (i = 0 ∨ i = 1 ∨ i = 2 ∨ i = 3 ∨ i = 4 ∨ i = 5 ∨ i = 6 ∨ i = 7 ∨ i = 8) by omega) with rfl | rfl | rfl | rfl | rfl | rfl | rfl | rfl | rfl <;> rcases (show (j = 0 ∨ j = 1 ∨ j = 2 ∨ j = 3 ∨ j = 4 ∨ j = 5 ∨ j = 6 ∨ j = 7 ∨ j = 8) by omega) with rfl | rfl | rfl | rfl | rfl | rfl | rfl | rfl | rfl <;> first | exact hf _ (by decide +kernel) | omega) hA9
  refine ⟨fun k => if k = 0 then t0 else if k = 1 then t1 else if k = 2 then t2 else if k < 20 then adK (k - 10) else adV (k - 20), ⟨va_Nw.of rfl (hts (.methodLinkNest RX1 50 yX8_outside RX8) (by decide +kernel)), va_Nw.of rfl (hts (.methodLinkNest RX2 38 yX8_outside RX8) (by decide +kernel)), va_Nw.of rfl (hts (.methodLinkNest RX3 9 yX8_outside RX8) (by decide +kernel)), va_Nw.of rfl (hts (.methodLinkNest RX4 126 yX8_outside RX8) (by decide +kernel))⟩, ⟨hz0, hT0, hz1, hT1, hz2, hT2⟩, ⟨hcs, hsi, ?_⟩, ?_⟩
  · refine ⟨fun i hi => ?_, fun i j hi hj he => ?_⟩
    · have h1 := hks.1 i hi
      have e1 : (if 10 + i = 0 then t0 else if 10 + i = 1 then t1 else if 10 + i = 2 then t2 else if 10 + i < 20 then adK (10 + i - 10) else adV (10 + i - 20)) = adK i := by
        rw [if_neg (by omega), if_neg (by omega), if_neg (by omega), if_pos (by omega), Nat.add_sub_cancel_left]
      have e2 : (if 20 + i = 0 then t0 else if 20 + i = 1 then t1 else if 20 + i = 2 then t2 else if 20 + i < 20 then adK (20 + i - 10) else adV (20 + i - 20)) = adV i := by
        rw [if_neg (by omega), if_neg (by omega), if_neg (by omega), if_neg (by omega), Nat.add_sub_cancel_left]
      dsimp only
      rw [e1, e2]
      exact h1
    · refine hks.2 i j hi hj ?_
      dsimp only at he
      rw [if_neg (by omega), if_neg (by omega), if_neg (by omega), if_pos (by omega), Nat.add_sub_cancel_left, if_neg (by omega), if_neg (by omega), if_neg (by omega), if_pos (by omega), Nat.add_sub_cancel_left] at he
      exact he
  · exact ⟨vk_R.of (hts (.stringRef RX4 61 "law") (by decide +kernel)) (hke 0 (by decide)), vk_R.of (hts (.stringRef RX4 81 "road") (by decide +kernel)) (hke 1 (by decide)), vk_R.of (hts (.stringRef RX4 93 "holder") (by decide +kernel)) (hke 2 (by decide)), vk_R.of (hts (.stringRef RX4 99 "coin") (by decide +kernel)) (hke 3 (by decide)), vk_R.of (hts (.stringRef RX4 114 "gold") (by decide +kernel)) (hke 4 (by decide)), vk_R.of (hts (.stringRef RX4 118 "silver") (by decide +kernel)) (hke 5 (by decide)), vk_R.of (hts (.stringRef RX4 120 "copper") (by decide +kernel)) (hke 6 (by decide)), vk_R.of (hts (.stringRef RX4 122 "forged") (by decide +kernel)) (hke 7 (by decide)), vk_R.of (hts (.stringRef RX4 124 "old") (by decide +kernel)) (hke 8 (by decide))⟩
theorem nn_start {s : State} {b : Nat} (hts : ∀ w ∈ lw_tbl, w.before #[Value.ref b] s = true) : NN s :=
  ⟨va_Nw.of rfl (hts (.methodLinkNest RX4 9 yX7_init RX8) (by decide +kernel)), va_Nw.of rfl (hts (.methodLinkNest RX8 23 yX4_init RX8) (by decide +kernel)), va_Nw.of rfl (hts (.methodLinkNest RX8 37 yX0_init RX8) (by decide +kernel)), va_Nw.of rfl (hts (.methodLinkNest RX8 44 yX2_init RX8) (by decide +kernel)), va_Nw.of rfl (hts (.methodLinkNest RX8 51 yX1_init RX8) (by decide +kernel)), va_Nw.of rfl (hts (.methodLinkNest RX8 56 yX5_init RX8) (by decide +kernel)), va_Nw.of rfl (hts (.methodLinkNest RX8 71 yX6_init RX8) (by decide +kernel)), va_AO.of (hts (.arrayOver (.object RX6)) (by decide +kernel)), va_AO.of (hts (.arrayOver (.object RX5)) (by decide +kernel)), hts (.arrayOver (.array .int)) (by decide +kernel)⟩
set_option maxHeartbeats 4000000 in
set_option maxRecDepth 100000 in
theorem kn_start {s : State} {b : Nat} (hts : ∀ w ∈ lw_tbl, w.before #[Value.ref b] s = true) : ∃ (D : va_G) (cI cB cR cM cJ cZ : ClassId), va_K D vwCl (ctys cI cB cR cM cJ) s ∧ va_K D vwCl [(cI, .int), (cZ, .boolean)] s := by
  obtain ⟨c0, iS0, hKn0⟩ := u_known (C := RX0) (T := TX0) (N := 3) (n := 3) hts wsL_in_X0 (hts (.instantiable RX0 3) (by decide +kernel))
  obtain ⟨c1, iS1, hKn1⟩ := u_known (C := RX1) (T := TX1) (N := 6) (n := 6) hts wsL_in_X1 (hts (.instantiable RX1 6) (by decide +kernel))
  obtain ⟨c2, iS2, hKn2⟩ := u_known (C := RX2) (T := TX2) (N := 4) (n := 4) hts wsL_in_X2 (hts (.instantiable RX2 4) (by decide +kernel))
  obtain ⟨c3, iS3, hKn3⟩ := u_known (C := RX4) (T := TX4) (N := 4) (n := 4) hts wsL_in_X4 (hts (.instantiable RX4 4) (by decide +kernel))
  obtain ⟨c4, iS4, hKn4⟩ := u_known (C := RX5) (T := TX5) (N := 8) (n := 8) hts wsL_in_X5 (hts (.instantiable RX5 8) (by decide +kernel))
  obtain ⟨c5, iS5, hKn5⟩ := u_known (C := RX6) (T := TX6) (N := 3) (n := 3) hts wsL_in_X6 (hts (.instantiable RX6 3) (by decide +kernel))
  obtain ⟨c6, iS6, hKn6⟩ := u_known (C := RX7) (T := TX7) (N := 6) (n := 6) hts wsL_in_X7 (hts (.instantiable RX7 6) (by decide +kernel))
  obtain ⟨c7, iS7, hKn7⟩ := u_known (C := RX8) (T := TX8) (N := 11) (n := 11) hts wsL_in_X8 (hts (.instantiable RX8 11) (by decide +kernel))
  obtain ⟨c8, iS8, hKn8⟩ := u_known (C := RX9) (T := TX9) (N := 26) (n := 26) hts wsL_in_X9 (hts (.instantiable RX9 26) (by decide +kernel))
  obtain ⟨dC, dI, hKc⟩ : ∃ (dC : Nat → ClassId) (dI : Nat → Nat → Nat), ∀ (k : Nat) (q : vw_C), vwCl[k]? = some q → u_Kn s q.1 q.2.1 q.2.2 (dC k) (dI k) := by
    refine ⟨fun k => if k = 0 then c0 else if k = 1 then c1 else if k = 2 then c2 else if k = 3 then c3 else if k = 4 then c4 else if k = 5 then c5 else if k = 6 then c6 else if k = 7 then c7 else c8, fun k => if k = 0 then iS0 else if k = 1 then iS1 else if k = 2 then iS2 else if k = 3 then iS3 else if k = 4 then iS4 else if k = 5 then iS5 else if k = 6 then iS6 else if k = 7 then iS7 else iS8, ?_⟩
    intro k q hq
    match k, hq with
    | 0, hq => cases hq; exact hKn0
    | 1, hq => cases hq; exact hKn1
    | 2, hq => cases hq; exact hKn2
    | 3, hq => cases hq; exact hKn3
    | 4, hq => cases hq; exact hKn4
    | 5, hq => cases hq; exact hKn5
    | 6, hq => cases hq; exact hKn6
    | 7, hq => cases hq; exact hKn7
    | 8, hq => cases hq; exact hKn8
    | k + 9, hq => simp [vwCl] at hq
  obtain ⟨cI, kI, pI, fI, gI, eI⟩ := Cond.arrayClass_spec (hts (.arrayClass .int) (by decide +kernel))
  obtain ⟨cB, kB, pB, fB, gB, eB⟩ := Cond.arrayClass_spec (hts (.arrayClass .byte) (by decide +kernel))
  obtain ⟨cZ, kZ, pZ, fZ, gZ, eZ⟩ := Cond.arrayClass_spec (hts (.arrayClass .boolean) (by decide +kernel))
  obtain ⟨pR, cR, kR, r1, r2, r3, r4, r5⟩ := Cond.arrayOver_spec (hts (.arrayOver (.object RX6)) (by decide +kernel))
  obtain ⟨pM, cM, kM, m1, m2, m3, m4, m5⟩ := Cond.arrayOver_spec (hts (.arrayOver (.object RX5)) (by decide +kernel))
  obtain ⟨pJ, cJ, kJ, j1, j3, j4, j5⟩ := Cond.arrayOver_specA (hts (.arrayOver (.array .int)) (by decide +kernel))
  refine ⟨(dC, dI), cI, cB, cR, cM, cJ, cZ, ⟨hKc, fun k q hk => ?_⟩, ⟨hKc, fun k q hk => ?_⟩⟩
  · match k, hk with
    | 0, hk => cases hk; exact ⟨fun n z => ⟨fun k h => (by cases h), kI, gI, pI, eI⟩, fI⟩
    | 1, hk => cases hk; exact ⟨fun n z => ⟨fun k h => (by cases h), kB, gB, pB, eB⟩, fB⟩
    | 2, hk => cases hk; exact ⟨fun n z => ⟨fun k h => (by cases h), kR, r3, pR, r4⟩, ⟨kR, pR, r3, r4, r1, r5⟩⟩
    | 3, hk => cases hk; exact ⟨fun n z => ⟨fun k h => (by cases h), kM, m3, pM, m4⟩, ⟨kM, pM, m3, m4, m1, m5⟩⟩
    | 4, hk => cases hk; exact ⟨fun n z => ⟨fun k h => (by cases h), kJ, j3, pJ, j4⟩, j5⟩
    | k + 5, hk => simp at hk
  · match k, hk with
    | 0, hk => cases hk; exact ⟨fun n z => ⟨fun k h => (by cases h), kI, gI, pI, eI⟩, fI⟩
    | 1, hk => cases hk; exact ⟨fun n z => ⟨fun k h => (by cases h), kZ, gZ, pZ, eZ⟩, fZ⟩
    | k + 2, hk => simp at hk
