/-! PURE: mint, coin, count -/
theorem RWay.lt_iff {x y a b : Int32} (h : RWay x y) (h' : RWay a b) : x < a ↔ y < b := by
  have e1 : (1000 : Int32).toInt = 1000 := by decide
  have e2 : (10000 : Int32).toInt = 10000 := by decide
  have e3 : (1000000 : Int32).toInt = 1000000 := by decide
  have e4 : (0 : Int32).toInt = 0 := by decide
  rcases h with ⟨rfl, rfl⟩ | ⟨rfl, h1, h2⟩ <;> rcases h' with ⟨rfl, rfl⟩ | ⟨rfl, h3, h4⟩ <;> simp only [Int32.lt_iff_toInt_lt, Int32.le_iff_toInt_le] at * <;> omega
theorem lateWith_loop {k : Nat} {σL σ : MS} (hk : k < 512) (h : RReal k (σL.1 4) (σL.1 5) (σL.1 6) (σL.1 7) (σL.2 0) (σL.2 1) (σL.2 2) (σL.2 3) (σ.2 5)) (h1 : σL.1 4 = 1) {N : Nat} (hN : N ≤ 12) (e1 : σL.1 7 = nI N) (e2 : σ.2 5 3 = nI N) {s : Nat} (hs : s < 8) (n : Nat) : ∀ (d c : Nat) (acc : Int32), c + d = N → ∃ r, FL_lateWithMint_4 (n + d + 1) σL (nI s) acc (nI c) = some r ∧ FM_lateWith_4 (n + d + 1) σ (nI s) acc (nI c) = some r := by
  intro d
  induction d with
  | zero =>
    intro c acc hc
    refine ⟨acc, ?_, ?_⟩
    · unfold FL_lateWithMint_4
      rw [e1, if_pos (nI_le (by omega) (by omega))]
    · unfold FM_lateWith_4
      rw [gd_t (by decide), show Int32.toNatClampNeg 3 = 3 from by decide, e2, if_pos (nI_le (by omega) (by omega))]
  | succ d ih =>
    intro c acc hc
    obtain ⟨q, t, C⟩ := h.cn (j := c) (by omega) (by rw [e1]; exact nI_lt (by omega) (by omega))
    have hge : ¬ nI N ≤ nI c := nI_ge (by omega) (by omega)
    have L1 := p_lslack C hs
    have ht := C.1.2.2.1
    have w1 := (h.2.2.2.2.1 h1 t 0 ht (by decide)).1
    have w2 := (h.2.2.2.2.1 h1 t s ht hs).1
    rw [Nat.add_zero, Nat.add_zero] at w1
    have S0 : ¬ σL.2 3 (5 * c + 2) = 0 → FM_slackBy σ (nI c) (σ.2 5 (5 + 8 * t)) = some (svL σL c t s) := fun z => p_mslack (s := s) hk C (fun z' => absurd z' z) (fun _ => w1)
    have S1 : σL.2 3 (5 * c + 2) = 0 → σ.2 5 (5 + 8 * t) ≤ σ.2 5 (5 + 8 * t + s) → FM_slackBy σ (nI c) (σ.2 5 (5 + 8 * t)) = some (svL σL c t s) := fun z y => p_mslack (s := s) hk C (fun _ => by
      rw [if_neg (fun z' => Int32.not_lt.mpr y ((w2.lt_iff w1).mp z'))]; exact w1) (fun _ => w1)
    have S2 : σL.2 3 (5 * c + 2) = 0 → ¬ σ.2 5 (5 + 8 * t) ≤ σ.2 5 (5 + 8 * t + s) → FM_slackBy σ (nI c) (σ.2 5 (5 + 8 * t + s)) = some (svL σL c t s) := fun z y => p_mslack (s := s) hk C (fun _ => by
      rw [if_pos ((w2.lt_iff w1).mpr (Int32.not_le.mp y))]; exact w2) (fun z' => absurd z z')
    have f0 : FM_farOf σ (nI t) 0 = some (σ.2 5 (5 + 8 * t)) := p_farOf σ (a := t) (b := 0) ht (by decide)
    have fs := p_farOf σ ht hs
    obtain ⟨-, -, ⟨-, -, -, o3, -⟩, ⟨-, mt, -⟩, -⟩ := C
    have M6 : ∀ x, FM_slackBy σ (nI c) x = some (svL σL c t s) → FM_lateWith_63 (FM_lateWith_4 (n + (d + 1))) σ (nI s) acc (nI c) x (nI c) = FM_lateWith_4 (n + (d + 1)) σ (nI s) (if svL σL c t s = -1000000 then acc else if 0 ≤ svL σL c t s then acc else acc + 1) (nI (c + 1)) := by
      intro x hx
      unfold FM_lateWith_63 FM_lateWith_85 FM_lateWith_86
      rw [hx]
      simp only [Option.bind_some, nm, ← nI_succ, Int32.add_zero]
      by_cases z1 : svL σL c t s = -1000000
      · simp only [z1, if_true]
      by_cases z2 : 0 ≤ svL σL c t s
      · simp only [z1, z2, if_true, if_false]
      · simp only [z1, z2, if_false]
    have L0 : FL_lateWithMint_4 (n + (d + 1) + 1) σL (nI s) acc (nI c) = FL_lateWithMint_4 (n + (d + 1)) σL (nI s) (if svL σL c t s = -1000000 then acc else if 0 ≤ svL σL c t s then acc else acc + 1) (nI (c + 1)) := by
      conv => lhs; unfold FL_lateWithMint_4 FL_lateWithMint_27 FL_isLate
      rw [L1]
      simp only [e1, hge, if_false, Option.bind_some, nm, ← nI_succ]
      by_cases z1 : svL σL c t s = -1000000
      · simp only [z1, if_true, Option.bind_some]
      by_cases z2 : 0 ≤ svL σL c t s
      · simp only [z1, z2, if_true, if_false, Option.bind_some]
      · simp only [z1, z2, if_false, Option.bind_some, one_ne_zero32]
    have M0 : FM_lateWith_4 (n + (d + 1) + 1) σ (nI s) acc (nI c) = FM_lateWith_4 (n + (d + 1)) σ (nI s) (if svL σL c t s = -1000000 then acc else if 0 ≤ svL σL c t s then acc else acc + 1) (nI (c + 1)) := by
      conv => lhs; unfold FM_lateWith_4 FM_lateWith_61
      rw [gd_t (by decide), show Int32.toNatClampNeg 3 = 3 from by decide, mt]
      simp only [e2, hge, if_false, Option.bind_some, f0, fs, o3]
      by_cases z1 : σL.2 3 (5 * c + 2) = 0
      · by_cases z2 : σ.2 5 (5 + 8 * t) ≤ σ.2 5 (5 + 8 * t + s)
        · simp only [z1, z2, if_true]
          exact M6 _ (S1 z1 z2)
        · simp only [z1, z2, if_true, if_false]
          exact M6 _ (S2 z1 z2)
      · simp only [z1, if_false]
        exact M6 _ (S0 z1)
    rw [L0, M0]
    exact ih (c + 1) _ (by omega)
theorem mint_loop {σL σ : MS} (hl : ∀ s, s < 8 → ∃ r, FL_lateWithMint σL (nI s) = some r ∧ FM_lateWith σ (nI s) = some r) (a : Int32) (n : Nat) : ∀ (d c b : Nat), c + d = 8 → b < 8 → ∃ b' r, b' < 8 ∧ FL_bestSecondMint_4 (n + d + 1) σL (nI b) (nI c) = some (nI b') ∧ FL_lateWithMint σL (nI b') = some r ∧ FM_mint_32 (n + d + 1) σ a (nI b) (nI c) = some (if a = 0 then nI b' else r, σ) := by
  intro d
  induction d with
  | zero =>
    intro c b hc hb
    obtain ⟨r, r1, r2⟩ := hl b hb
    refine ⟨b, r, hb, ?_, r1, ?_⟩
    · unfold FL_bestSecondMint_4
      rw [if_pos (show (8 : Int32) ≤ nI c from nI_le (a := 8) (b := c) (by omega) (by omega))]
    · unfold FM_mint_32
      rw [if_pos (show (8 : Int32) ≤ nI c from nI_le (a := 8) (b := c) (by omega) (by omega)), r2]
      by_cases z : a = 0
      · rw [if_pos z, if_pos z]
      · rw [if_neg z, if_neg z]; rfl
  | succ d ih =>
    intro c b hc hb
    have hge : ¬ (8 : Int32) ≤ nI c := nI_ge (a := c) (b := 8) (by omega) (by omega)
    obtain ⟨r, r1, r2⟩ := hl b hb
    obtain ⟨s, s1, s2⟩ := hl c (by omega)
    have L0 : FL_bestSecondMint_4 (n + (d + 1) + 1) σL (nI b) (nI c) = FL_bestSecondMint_4 (n + (d + 1)) σL (nI (if r ≤ s then b else c)) (nI (c + 1)) := by
      conv => lhs; unfold FL_bestSecondMint_4 FL_bestSecondMint_25
      rw [s1, r1]
      simp only [hge, if_false, Option.bind_some, nm, ← nI_succ]
      by_cases z : r ≤ s
      · simp only [z, if_true]
      · simp only [z, if_false]
    have M0 : FM_mint_32 (n + (d + 1) + 1) σ a (nI b) (nI c) = FM_mint_32 (n + (d + 1)) σ a (nI (if r ≤ s then b else c)) (nI (c + 1)) := by
      conv => lhs; unfold FM_mint_32 FM_mint_56
      rw [s2, r2]
      simp only [hge, if_false, Option.bind_some, nm, ← nI_succ]
      by_cases z : r ≤ s
      · simp only [z, if_true]
      · simp only [z, if_false]
    rw [L0, M0]
    exact ih (c + 1) (if r ≤ s then b else c) (by omega) (by split <;> omega)
theorem sim_mint : Sim_mint Rel := by
  intro k σP σL σG σR σT σC σA σK ω ι σ a1 hk h
  have hm := Rel.mono _ _ _ _ _ _ _ _ _ _ _ _ h
  obtain ⟨et, hR⟩ := h.2.2.2.1
  by_cases h0 : σL.1 4 = 0
  · refine ⟨-1000002, setF σ 0 0, ?_, ?_, hm⟩
    · unfold FP_mint
      rw [if_pos h0]
    · unfold FM_mint
      show (if σ.1 7 = 0 then _ else _) = _
      rw [if_pos (by rw [← et]; exact h0)]
  · have h1 : σL.1 4 = 1 := hR.1.resolve_left h0
    have h0' : ¬ σ.1 7 = 0 := by rw [← et]; exact h0
    by_cases hc : 0 ≤ a1 ∧ a1 ≤ 1
    · obtain ⟨N, hN, e1, e2⟩ := hR.num
      have hl : ∀ s, s < 8 → ∃ r, FL_lateWithMint σL (nI s) = some r ∧ FM_lateWith (setF σ 0 0) (nI s) = some r := by
        intro s hs
        obtain ⟨r, i1, i2⟩ := lateWith_loop (σ := setF σ 0 0) hk hR h1 hN e1 e2 hs (4999 - N) N 0 0 (by omega)
        rw [show 4999 - N + N + 1 = fuelN from by show _ = 5000; omega] at i1 i2
        exact ⟨r, i1, i2⟩
      obtain ⟨b, r, hb, j1, j2, j3⟩ := mint_loop hl a1 4993 6 2 1 (by omega) (by omega)
      refine ⟨if a1 = 0 then nI b else r, setF σ 0 0, ?_, ?_, hm⟩
      · unfold FP_mint FL_bestSecondMint
        rw [if_neg h0, p_outside, if_pos hc, Option.bind_some, if_pos rfl, show FL_bestSecondMint_4 fuelN σL 1 2 = _ from j1, Option.bind_some, j2]
        by_cases z : a1 = 0
        · rw [if_pos z, if_pos z]
        · rw [if_neg z, if_neg z]; rfl
      · unfold FM_mint
        show (if σ.1 7 = 0 then _ else _) = _
        rw [if_neg h0', show FM_in (Int32.toInt64 a1) 0 1 = _ from p_in a1 0 1, if_pos hc, Option.bind_some, if_neg one_ne_zero32]
        exact j3
    · refine ⟨-1000001, setF σ 0 0, ?_, ?_, hm⟩
      · unfold FP_mint
        rw [if_neg h0, p_outside, if_neg hc]
        rfl
      · unfold FM_mint
        show (if σ.1 7 = 0 then _ else _) = _
        rw [if_neg h0', show FM_in (Int32.toInt64 a1) 0 1 = _ from p_in a1 0 1, if_neg hc]
        rfl
theorem span_t : ∀ l, l < 401 → (0 ≤ (nI l / 2 : Int32).toInt ∧ (nI l / 2 : Int32).toInt ≤ 200) ∧ (0 ≤ (nI l + nI l / 2 : Int32).toInt ∧ (nI l + nI l / 2 : Int32).toInt ≤ 600) ∧ (0 ≤ (nI l).toInt ∧ (nI l).toInt ≤ 400) := by decide +kernel
theorem spanV_b {K L : Int32} (h0 : 0 ≤ L) (h1 : L ≤ 400) : 0 ≤ (spanV K L).toInt ∧ (spanV K L).toInt ≤ 600 := by
  obtain ⟨l, hl, rfl⟩ := nI_of2 (x := L) (M := 400) (n := 400) (by decide) (Int32.not_lt.mpr h0) h1
  obtain ⟨a, b, c⟩ := span_t l (by omega)
  unfold spanV
  split
  · omega
  · split <;> omega
theorem sim_coin : Sim_coin Rel := by
  intro k σP σL σG σR σT σC σA σK ω ι σ a1 a2 hk h
  obtain ⟨ec, hco⟩ := h.coin
  have hm := Rel.mono _ _ _ _ _ _ _ _ _ _ _ _ h
  obtain ⟨et, hR⟩ := h.2.2.2.1
  by_cases hc : 0 ≤ a1 ∧ a1 ≤ σL.1 7 - 1
  · by_cases hd : 0 ≤ a2 ∧ a2 ≤ 7
    · obtain ⟨j, hj, rfl, hl⟩ := hco hc
      obtain ⟨q, t, C⟩ := RReal.cn (σ := setF σ 0 0) hR hj hl
      have h1 := told1 hR hl hj
      obtain ⟨s1, s2⟩ := p_slackOf (σ := setF σ 0 0) hk hR h1 C
      have hb := spanV_b (K := σL.2 2 j) hR.2.2.1.1 hR.2.2.1.2.1
      obtain ⟨-, ⟨b0, b1, b2, b3, b4⟩, ⟨o0, o1, o2, o3, o4, o5⟩, ⟨-, -, ls, ms⟩, -⟩ := C
      have M0 : FM_coin σ (nI j) a2 = (if Int32.toInt a2 < 5 ∨ 7 < Int32.toInt a2 then (if a2 = 4 then (FM_coin_113 (setF σ 0 0) 5 (nI j)) else (if a2 = 3 then (FM_coin_113 (setF σ 0 0) 4 (nI j)) else (if a2 = 2 then (FM_coin_113 (setF σ 0 0) 3 (nI j)) else (if a2 = 1 then (FM_coin_113 (setF σ 0 0) 2 (nI j)) else (FM_coin_113 (setF σ 0 0) 1 (nI j)))))) else (if a2 = 5 then (Option.bind (FM_spanOf (setF σ 0 0) (nI j)) fun (r13 : Int32) => some (r13, setF σ 0 0)) else (if a2 = 6 then (Option.bind (FM_slackOf (setF σ 0 0) (nI j)) fun (r12 : Int32) => some (r12, setF σ 0 0)) else (if a2 = 7 then (Option.bind (FM_worthOf (setF σ 0 0) (nI j)) fun (r11 : Int32) => some (r11, setF σ 0 0)) else (none))))) := by
        unfold FM_coin
        show Option.bind (FM_isCoin (setF σ 0 0) (nI j)) _ = _
        rw [p_isCoin, if_pos (by show 0 ≤ nI j ∧ nI j ≤ σ.2 5 3 - 1; rw [ec]; exact hc), Option.bind_some, if_neg one_ne_zero32, show FM_in (Int32.toInt64 a2) 0 7 = _ from p_in a2 0 7, if_pos hd, Option.bind_some, if_neg one_ne_zero32]
      have L0 : FP_coin σL (nI j) a2 = (if Int32.toInt a2 < 5 ∨ 7 < Int32.toInt a2 then (Option.bind (FL_about σL (nI j) a2) fun (r6 : Int32) => some (r6)) else (if a2 = 5 then (Option.bind (FL_spanOf σL (nI j)) fun (r9 : Int32) => some (r9)) else (if a2 = 6 then (Option.bind (FL_slackOf σL (nI j)) fun (r8 : Int32) => some (r8)) else (if a2 = 7 then (Option.bind (FL_worthOf σL (nI j)) fun (r7 : Int32) => some (r7)) else (none))))) := by
        unfold FP_coin
        rw [p_noCoin, if_pos hc, Option.bind_some, if_pos rfl, p_outside, if_pos hd, Option.bind_some, if_pos rfl]
      obtain ⟨f, hf, rfl⟩ := ix7 hd
      rw [M0, L0]
      unfold FM_coin_113
      rcases (show f = 0 ∨ f = 1 ∨ f = 2 ∨ f = 3 ∨ f = 4 ∨ f = 5 ∨ f = 6 ∨ f = 7 by omega) with rfl | rfl | rfl | rfl | rfl | rfl | rfl | rfl
      · refine ⟨nI q, setF σ 0 0, ?_, ?_, hm⟩
        · rw [if_pos (by decide), show FL_about σL (nI j) (nI 0) = _ from b0]; rfl
        · rw [if_pos (by decide), if_neg (by decide), if_neg (by decide), if_neg (by decide), if_neg (by decide), o1]; rfl
      · refine ⟨σL.2 3 (5 * j + 1), setF σ 0 0, ?_, ?_, hm⟩
        · rw [if_pos (by decide), show FL_about σL (nI j) (nI 1) = _ from b1]; rfl
        · rw [if_pos (by decide), if_neg (by decide), if_neg (by decide), if_neg (by decide), if_pos (by decide), o2]; rfl
      · refine ⟨σL.2 3 (5 * j + 2), setF σ 0 0, ?_, ?_, hm⟩
        · rw [if_pos (by decide), show FL_about σL (nI j) (nI 2) = _ from b2]; rfl
        · rw [if_pos (by decide), if_neg (by decide), if_neg (by decide), if_pos (by decide), o3]; rfl
      · refine ⟨σL.2 3 (5 * j + 3), setF σ 0 0, ?_, ?_, hm⟩
        · rw [if_pos (by decide), show FL_about σL (nI j) (nI 3) = _ from b3]; rfl
        · rw [if_pos (by decide), if_neg (by decide), if_pos (by decide), o4]; rfl
      · refine ⟨σL.2 3 (5 * j + 4), setF σ 0 0, ?_, ?_, hm⟩
        · rw [if_pos (by decide), show FL_about σL (nI j) (nI 4) = _ from b4]; rfl
        · rw [if_pos (by decide), if_pos (by decide), o5]; rfl
      · refine ⟨spanV (σL.2 2 j) (σL.1 5), setF σ 0 0, ?_, ?_, hm⟩
        · rw [if_neg (by decide), if_pos (by decide), ls]; rfl
        · rw [if_neg (by decide), if_pos (by decide), ms]; rfl
      · refine ⟨svL σL j t 0, setF σ 0 0, ?_, ?_, hm⟩
        · rw [if_neg (by decide), if_neg (by decide), if_pos (by decide), s1]; rfl
        · rw [if_neg (by decide), if_neg (by decide), if_pos (by decide), s2]; rfl
      · refine ⟨if svL σL j t 0 ≤ 0 then 0 else if spanV (σL.2 2 j) (σL.1 5) = 0 then 0 else (100 * svL σL j t 0) / spanV (σL.2 2 j) (σL.1 5), setF σ 0 0, ?_, ?_, hm⟩
        · rw [if_neg (by decide), if_neg (by decide), if_neg (by decide), if_pos (by decide)]
          unfold FL_worthOf FL_worthOf_20
          rw [s1, Option.bind_some, ls, Option.bind_some]
          by_cases z1 : svL σL j t 0 ≤ 0
          · rw [if_pos z1, if_pos z1]; rfl
          rw [if_neg z1, if_neg z1]
          by_cases z2 : spanV (σL.2 2 j) (σL.1 5) = 0
          · rw [if_pos z2, if_neg (by rw [z2]; decide)]; rfl
          · have z3 : 0 < spanV (σL.2 2 j) (σL.1 5) := by
              rw [Int32.lt_iff_toInt_lt]
              have e0 : (0 : Int32).toInt = 0 := by decide
              have : (spanV (σL.2 2 j) (σL.1 5)).toInt ≠ 0 := fun z => z2 (Int32.toInt_inj.mp (by rw [z, e0]))
              omega
            rw [if_neg z2, if_pos z3, gd_t z2]; rfl
        · rw [if_neg (by decide), if_neg (by decide), if_neg (by decide), if_pos (by decide)]
          unfold FM_worthOf FM_worthOf_18
          rw [s2, Option.bind_some, ms]
          by_cases z1 : svL σL j t 0 ≤ 0
          · rw [if_pos z1, if_pos z1]; rfl
          rw [if_neg z1, if_neg z1]
          by_cases z2 : spanV (σL.2 2 j) (σL.1 5) = 0
          · rw [if_pos z2, Option.bind_some, if_pos z2]; rfl
          · rw [if_neg z2, Option.bind_some, if_neg z2, Option.bind_some, gd_t z2]; rfl
    · refine ⟨-1000001, setF σ 0 0, ?_, ?_, hm⟩
      · unfold FP_coin
        rw [p_noCoin, if_pos hc, Option.bind_some, if_pos rfl, p_outside, if_neg hd]
        rfl
      · unfold FM_coin
        show Option.bind (FM_isCoin (setF σ 0 0) a1) _ = _
        rw [p_isCoin, if_pos (by show 0 ≤ a1 ∧ a1 ≤ σ.2 5 3 - 1; rw [ec]; exact hc), Option.bind_some, if_neg one_ne_zero32, show FM_in (Int32.toInt64 a2) 0 7 = _ from p_in a2 0 7, if_neg hd]
        rfl
  · refine ⟨-1000001, setF σ 0 0, ?_, ?_, hm⟩
    · unfold FP_coin
      rw [p_noCoin, if_neg hc]
      rfl
    · unfold FM_coin
      show Option.bind (FM_isCoin (setF σ 0 0) a1) _ = _
      rw [p_isCoin, if_neg (by show ¬ (0 ≤ a1 ∧ a1 ≤ σ.2 5 3 - 1); rw [ec]; exact hc)]
      rfl
