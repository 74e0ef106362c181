/-! PURE: copy -/
theorem cpy_stepD (s d : Nat → Int32) (sp dp c : Nat) : upd (va_cpy s d (sp + 1) (dp + 1) c) dp (s sp) = va_cpy s d sp dp (c + 1) := by
  funext k
  by_cases h : k = dp
  · subst h
    rw [pk_us]
    unfold va_cpy
    rw [if_pos (by omega)]
    congr 1
    omega
  · rw [pk_un h]
    unfold va_cpy
    by_cases h2 : dp + 1 ≤ k ∧ k < dp + 1 + c
    · rw [if_pos h2, if_pos (by omega)]
      congr 1
      omega
    · rw [if_neg h2, if_neg (by omega)]
theorem k40 (a i c : Nat) : (40 * nI a + nI i + nI c : Int32) = nI (40 * a + i + c) := by
  rw [show (40 : Int32) = nI 40 from rfl, pk_mul, nI_add, nI_add]
theorem copyU_loop (σ : MS) {a b i j m : Nat} (ha : a < 8) (hb : b < 8) (hi : i + m ≤ 40) (hj : j + m ≤ 40) (hij : a ≠ b ∨ j ≤ i) (n : Nat) : ∀ d c, c + d = m → FM_copy_143 (n + d + 1) (setR σ 4 (va_cpy (σ.2 4) (σ.2 4) (40 * a + i) (40 * b + j) c)) (nI a) (nI i) (nI b) (nI j) (nI m) 1 (nI c) = some (nI m, setR σ 4 (va_cpy (σ.2 4) (σ.2 4) (40 * a + i) (40 * b + j) m)) := by
  intro d
  induction d with
  | zero =>
    intro c hc
    unfold FM_copy_143
    rw [if_pos (nI_le (by omega) (by omega))]
    obtain rfl : c = m := by omega
    rfl
  | succ d ih =>
    intro c hc
    unfold FM_copy_143 FM_copy_167
    rw [if_neg (nI_ge (by omega) (by omega)), if_neg one_ne_zero32, k40, k40, gd_nI (show 40 * a + i + c < 320 by omega) (by decide), gd_nI (show 40 * b + j + c < 320 by omega) (by decide), nI_clamp (by omega), nI_clamp (by omega)]
    show FM_copy_143 (n + (d + 1)) (setR (setR σ 4 _) 4 (upd ((setR σ 4 _).2 4) (40 * b + j + c) ((setR σ 4 _).2 4 (40 * a + i + c)))) (nI a) (nI i) (nI b) (nI j) (nI m) 1 (nI c + 1) = _
    rw [setR_setR, setR_get, ← nI_succ, cpy_out (j := 40 * a + i + c) _ _ (by omega), cpy_step]
    exact ih (c + 1) (by omega)
theorem copyD_loop (σ : MS) {a b i j m : Nat} (ha : a < 8) (hb : b < 8) (hi : i + m ≤ 40) (hj : j + m ≤ 40) (hij : a ≠ b ∨ i ≤ j) (n : Nat) : ∀ d c, c + d = m → FM_copy_143 (n + d + 1) (setR σ 4 (va_cpy (σ.2 4) (σ.2 4) (40 * a + i + d) (40 * b + j + d) c)) (nI a) (nI i) (nI b) (nI j) (nI m) 0 (nI c) = some (nI m, setR σ 4 (va_cpy (σ.2 4) (σ.2 4) (40 * a + i) (40 * b + j) m)) := by
  intro d
  induction d with
  | zero =>
    intro c hc
    unfold FM_copy_143
    rw [if_pos (nI_le (by omega) (by omega))]
    obtain rfl : c = m := by omega
    rfl
  | succ d ih =>
    intro c hc
    unfold FM_copy_143 FM_copy_167
    have ed : (nI m - 1 - nI c : Int32) = nI d := by
      obtain rfl : m = (c + d) + 1 := by omega
      rw [nI_pred, pk_sub (by omega)]
      congr 1
      omega
    rw [if_neg (nI_ge (by omega) (by omega)), if_pos rfl, ed, k40, k40, gd_nI (show 40 * a + i + d < 320 by omega) (by decide), gd_nI (show 40 * b + j + d < 320 by omega) (by decide), nI_clamp (by omega), nI_clamp (by omega)]
    show FM_copy_143 (n + (d + 1)) (setR (setR σ 4 _) 4 (upd ((setR σ 4 _).2 4) (40 * b + j + d) ((setR σ 4 _).2 4 (40 * a + i + d)))) (nI a) (nI i) (nI b) (nI j) (nI m) 0 (nI c + 1) = _
    rw [setR_setR, setR_get, ← nI_succ, cpy_out (j := 40 * a + i + d) _ _ (by omega), ← Nat.add_assoc (40 * a + i) d 1, ← Nat.add_assoc (40 * b + j) d 1, cpy_stepD]
    exact ih (c + 1) (by omega)
theorem p_miss (w : MS) : FW_missing w = some (if w.1 1 = -1 then 1 else 0) := by
  unfold FW_missing
  by_cases h : w.1 1 = -1
  · rw [if_pos h, if_pos h]
  · rw [if_neg h, if_neg h]
theorem RRows.cpy {ω : Nat → MS} {lane many item : Nat → Int32} (hR : RRows ω lane many item) {a b i j m : Nat} (ha : a < 8) (hb : b < 8) (hi : i + m ≤ 40) (hj : j + m ≤ 40) (la : ¬ lane a = -1) : RRows (va_up ω b (setR (ω b) 0 (va_cpy ((ω a).2 0) ((ω b).2 0) i j m))) lane many (va_cpy item item (40 * a + i) (40 * b + j) m) := by
  intro r hr
  have h9 := hR r hr
  by_cases hrb : r = b
  · subst hrb
    rw [va_up_self]
    refine ⟨h9.1, h9.2.imp id (fun ⟨g1, g2, g3, g4, g5, g6⟩ => ⟨g1, g2, g3, g4, g5, fun x hx => ?_⟩)⟩
    show va_up (ω r).2 0 (va_cpy ((ω a).2 0) ((ω r).2 0) i j m) 0 x = _
    rw [va_up_self]
    by_cases hx2 : j ≤ x ∧ x < j + m
    · obtain ⟨-, h8⟩ := hR a ha
      obtain ⟨-, -, -, -, -, h8⟩ := h8.resolve_left la
      have := h8 (i + (x - j)) (by omega)
      unfold va_cpy
      rw [if_pos hx2, if_pos (by omega), this]
      congr 1
      omega
    · unfold va_cpy
      rw [if_neg hx2, if_neg (by omega)]
      exact g6 x hx
  · rw [va_up_ne _ _ hrb]
    refine ⟨h9.1, h9.2.imp id (fun ⟨g1, g2, g3, g4, g5, g6⟩ => ⟨g1, g2, g3, g4, g5, fun x hx => ?_⟩)⟩
    rw [cpy_out _ _ (by omega)]
    exact g6 x hx
theorem sim_copy : Sim_copy Rel := by
  intro k σP σL σG σR σT σC σA σK ω ι σ a1 a2 a3 a4 a5 hk h
  have hm := Rel.mono _ _ _ _ _ _ _ _ _ _ _ _ h
  obtain ⟨⟨p1, p2⟩, hR, h3, h4, h5, h6, h7⟩ := Rel.mono _ _ _ _ _ _ _ _ _ _ _ _ h
  by_cases hc : 0 ≤ a1 ∧ a1 ≤ 7
  · by_cases hd : 0 ≤ a3 ∧ a3 ≤ 7
    · obtain ⟨a, ha, rfl⟩ := ix7 hc
      obtain ⟨b, hb, rfl⟩ := ix7 hd
      obtain ⟨ea, ea2⟩ := hR a ha
      obtain ⟨eb, eb2⟩ := hR b hb
      have P0 : FP_copy σP ω (nI a) a2 (nI b) a4 a5 = Option.bind (FW_missing (ω a)) fun r7 => if r7 = 0 then (Option.bind (FW_missing (ω b)) fun r10 => if r10 = 0 then (if (ω a).1 1 = (ω b).1 1 then (Option.bind (FW_holds (ω a) a2 a5) fun r16 => if r16 = 0 then FP_copy_97 σP ω else (Option.bind (FW_holds (ω b) a4 a5) fun r19 => if r19 = 0 then FP_copy_97 σP ω else gd (¬ (a2 : Int32) < 0 ∧ ¬ (a4 : Int32) < 0 ∧ ¬ (a5 : Int32) < 0 ∧ Int32.toNatClampNeg a2 + Int32.toNatClampNeg a5 ≤ 40 ∧ Int32.toNatClampNeg a4 + Int32.toNatClampNeg a5 ≤ 40) (some (a5, setF σP 9 0, va_up ω b (setR (ω b) 0 (va_cpy ((ω a).2 0) ((ω b).2 0) (Int32.toNatClampNeg a2) (Int32.toNatClampNeg a4) (Int32.toNatClampNeg a5))))))) else some (-1000010 - 5, setF σP 9 5, ω)) else FP_copy_49 σP ω) else FP_copy_49 σP ω := by
        unfold FP_copy
        rw [p_noRow, if_pos hc, Option.bind_some, if_pos rfl, p_noRow, if_pos hd, Option.bind_some, if_pos rfl, gd_nI ha (by decide), gd_nI hb (by decide), nI_clamp (n := a) (by omega), nI_clamp (n := b) (by omega)]
        simp only [gd_t ha, gd_t hb]
        rfl
      have M0 : FM_copy σ (nI a) a2 (nI b) a4 a5 = if σ.2 2 a < 0 then FM_copy_45 (setF (setF σ 0 0) 1 0) else if 0 ≤ σ.2 2 b then (if σ.2 2 a = σ.2 2 b then (if a2 < 0 then FM_copy_121 (setF (setF σ 0 0) 1 0) else if a4 < 0 then FM_copy_121 (setF (setF σ 0 0) 1 0) else if a5 < 0 then FM_copy_121 (setF (setF σ 0 0) 1 0) else if 0 < lg_cmp ((Int32.toInt64 a2) + (Int32.toInt64 a5)) (Int32.toInt64 (σ.2 3 a)) then FM_copy_121 (setF (setF σ 0 0) 1 0) else if lg_cmp ((Int32.toInt64 a4) + (Int32.toInt64 a5)) (Int32.toInt64 (σ.2 3 b)) ≤ 0 then (if a2 < a4 then (FM_copy_138 (setF (setF σ 0 0) 1 0) (nI a) a2 (nI b) a4 a5 0) else (FM_copy_138 (setF (setF σ 0 0) 1 0) (nI a) a2 (nI b) a4 a5 1)) else FM_copy_121 (setF (setF σ 0 0) 1 0)) else some (-1000010 - 5, setF (setF (setF σ 0 0) 1 0) 1 5)) else FM_copy_45 (setF (setF σ 0 0) 1 0) := by
        unfold FM_copy
        show Option.bind (FM_isRow (nI a)) _ = _
        rw [p_isRow, if_pos hc, Option.bind_some, if_neg one_ne_zero32, p_isRow, if_pos hd, Option.bind_some, if_neg one_ne_zero32]
        simp only [nm, gd_nI ha (show 8 < 2 ^ 31 by decide), gd_nI hb (show 8 < 2 ^ 31 by decide)]
        rw [nI_clamp (n := a) (by omega), nI_clamp (n := b) (by omega)]
        rfl
      have c45 : FM_copy_45 (setF (setF σ 0 0) 1 0) = some (-1000010 - 1, setF (setF (setF σ 0 0) 1 0) 1 1) := rfl
      have c121 : FM_copy_121 (setF (setF σ 0 0) 1 0) = some (-1000010 - 2, setF (setF (setF σ 0 0) 1 0) 1 2) := rfl
      have f49 : FP_copy_49 σP ω = some (-1000010 - 1, setF σP 9 1, ω) := rfl
      have f97 : FP_copy_97 σP ω = some (-1000010 - 2, setF σP 9 2, ω) := rfl
      rw [p_miss, p_miss, ea, eb, Option.bind_some, f49, f97] at P0
      rw [c45, c121] at M0
      rcases ea2 with za | ⟨la, la2, ca, ca0, ca40, ia⟩
      · refine ⟨-1000010 - 1, setF σP 9 1, ω, setF (setF (setF σ 0 0) 1 0) 1 1, ?_, ?_, ⟨⟨rfl, p2⟩, hR, h3, h4, h5, h6, h7⟩⟩
        · rw [P0, if_pos za, if_neg one_ne_zero32]
        · rw [M0, if_pos (by rw [za]; decide)]
      have na : ¬ σ.2 2 a = -1 := fun z => m1_neg (by rw [z] at la; exact la)
      rw [if_neg na, if_pos rfl, Option.bind_some] at P0
      rw [if_neg (Int32.not_lt.mpr la)] at M0
      rcases eb2 with zb | ⟨lb, lb2, cb, cb0, cb40, ib⟩
      · refine ⟨-1000010 - 1, setF σP 9 1, ω, setF (setF (setF σ 0 0) 1 0) 1 1, ?_, ?_, ⟨⟨rfl, p2⟩, hR, h3, h4, h5, h6, h7⟩⟩
        · rw [P0, if_pos zb, if_neg one_ne_zero32]
        · rw [M0, if_neg (by rw [zb]; exact m1_neg)]
      have nb : ¬ σ.2 2 b = -1 := fun z => m1_neg (by rw [z] at lb; exact lb)
      rw [if_neg nb, if_pos rfl] at P0
      rw [if_pos lb] at M0
      by_cases zl : σ.2 2 a = σ.2 2 b
      · rw [if_pos zl] at P0 M0
        have PL : ∀ {r}, FP_copy σP ω (nI a) a2 (nI b) a4 a5 = some (-1000010 - 2, setF σP 9 2, ω) → FM_copy σ (nI a) a2 (nI b) a4 a5 = some (-1000010 - 2, setF (setF (setF σ 0 0) 1 0) 1 2) → r = r → ∃ (r : Int32) (σP' : MS) (ω' : (Nat → MS)) (σ' : MS), FP_copy σP ω (nI a) a2 (nI b) a4 a5 = some (r, σP', ω') ∧ FM_copy σ (nI a) a2 (nI b) a4 a5 = some (r, σ') ∧ Rel (k + 1) σP' σL σG σR σT σC σA σK ω' ι σ' := fun {r : Nat} x y _ => ⟨_, _, _, _, x, y, ⟨rfl, p2⟩, hR, h3, h4, h5, h6, h7⟩
        obtain ⟨ma, hma, ema⟩ := nI_of2 (x := σ.2 3 a) (M := 40) (n := 40) (by decide) (Int32.not_lt.mpr ca0) ca40
        obtain ⟨mb, hmb, emb⟩ := nI_of2 (x := σ.2 3 b) (M := 40) (n := 40) (by decide) (Int32.not_lt.mpr cb0) cb40
        by_cases y2 : a2 < 0
        · rw [p_holds_neg _ _ y2, Option.bind_some, if_pos rfl] at P0
          rw [if_pos y2] at M0
          exact PL (r := 0) P0 M0 rfl
        obtain ⟨i, hi, rfl⟩ := nI_of y2
        rw [if_neg y2] at M0
        by_cases y5 : a5 < 0
        · have : FW_holds (ω a) (nI i) a5 = some 0 := by
            unfold FW_holds
            rw [if_neg y2, if_pos y5]
          rw [this, Option.bind_some, if_pos rfl] at P0
          refine PL (r := 0) P0 ?_ rfl
          rw [M0]
          by_cases y4 : a4 < 0
          · rw [if_pos y4]
          · rw [if_neg y4, if_pos y5]
        obtain ⟨m, hm5, rfl⟩ := nI_of y5
        rw [p_holds (ω a) hi hm5 (by omega) (ca.trans ema), Option.bind_some] at P0
        rw [if_neg y5, ema, emb, nI_l hi, nI_l hm5, nI_l (by omega), nI_l (by omega), lN_add] at M0
        by_cases y4 : a4 < 0
        · rw [p_holds_neg _ _ y4, Option.bind_some, if_pos rfl, ite_self] at P0
          rw [if_pos y4] at M0
          exact PL (r := 0) P0 M0 rfl
        obtain ⟨j, hj, rfl⟩ := nI_of y4
        rw [p_holds (ω b) hj hm5 (by omega) (cb.trans emb), Option.bind_some] at P0
        rw [if_neg y4, nI_l hj, lN_add] at M0
        by_cases wa : i + m ≤ ma
        · rw [if_pos wa, if_neg one_ne_zero32] at P0
          rw [if_neg (by rw [lg_cmp_gt, pk_lLT (by omega) (by omega)]; omega)] at M0
          by_cases wb : j + m ≤ mb
          · rw [if_pos wb, if_neg one_ne_zero32, nI_clamp hi, nI_clamp hj, nI_clamp hm5, gd_t ⟨y2, y4, y5, by omega, by omega⟩] at P0
            rw [if_pos (by rw [lg_cmp_le, pk_lLE (by omega) (by omega)]; omega)] at M0
            refine ⟨nI m, setF σP 9 0, va_up ω b (setR (ω b) 0 (va_cpy ((ω a).2 0) ((ω b).2 0) i j m)), setR (setF (setF σ 0 0) 1 0) 4 (va_cpy (σ.2 4) (σ.2 4) (40 * a + i) (40 * b + j) m), P0, ?_, ⟨⟨rfl, p2⟩, hR.cpy ha hb (by omega) (by omega) na, h3, h4, h5, h6, h7⟩⟩
            rw [M0]
            unfold FM_copy_138
            by_cases hij : i < j
            · rw [if_pos (nI_lt hij hj)]
              have := copyD_loop (setF (setF σ 0 0) 1 0) (i := i) (j := j) (m := m) ha hb (by omega) (by omega) (Or.inr (by omega)) (4999 - m) m 0 (by omega)
              rw [cpy_0, setR_same _ 4 _ rfl, show 4999 - m + m + 1 = fuelN from by show _ = 5000; omega] at this
              exact this
            · rw [if_neg (nI_nlt (by omega) hi)]
              have := copyU_loop (setF (setF σ 0 0) 1 0) (i := i) (j := j) (m := m) ha hb (by omega) (by omega) (Or.inr (by omega)) (4999 - m) m 0 (by omega)
              rw [cpy_0, setR_same _ 4 _ rfl, show 4999 - m + m + 1 = fuelN from by show _ = 5000; omega] at this
              exact this
          · rw [if_neg wb, if_pos rfl] at P0
            rw [if_neg (by rw [lg_cmp_le, pk_lLE (by omega) (by omega)]; omega)] at M0
            exact PL (r := 0) P0 M0 rfl
        · rw [if_neg wa, if_pos rfl] at P0
          rw [if_pos (by rw [lg_cmp_gt, pk_lLT (by omega) (by omega)]; omega)] at M0
          exact PL (r := 0) P0 M0 rfl
      · rw [if_neg zl] at P0 M0
        exact ⟨_, _, _, _, P0, M0, ⟨rfl, p2⟩, hR, h3, h4, h5, h6, h7⟩
    · refine ⟨-1000001, σP, ω, setF σ 0 0, ?_, ?_, hm⟩
      · unfold FP_copy
        rw [p_noRow, if_pos hc, Option.bind_some, if_pos rfl, p_noRow, if_neg hd]
        rfl
      · unfold FM_copy
        show Option.bind (FM_isRow a1) _ = _
        rw [p_isRow, if_pos hc, Option.bind_some, if_neg one_ne_zero32, p_isRow, if_neg hd]
        rfl
  · refine ⟨-1000001, σP, ω, setF σ 0 0, ?_, ?_, hm⟩
    · unfold FP_copy
      rw [p_noRow, if_neg hc]
      rfl
    · unfold FM_copy
      show Option.bind (FM_isRow a1) _ = _
      rw [p_isRow, if_neg hc]
      rfl
