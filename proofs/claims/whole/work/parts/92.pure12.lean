/-! PURE: rows of numbers copied; keep, undo, image, restore -/
theorem setR_setR (σ : MS) (k : Nat) (f g : Nat → Int32) : setR (setR σ k f) k g = setR σ k g := by
  show ((σ.1, _) : MS) = (σ.1, _)
  congr 1
  funext j
  show va_up (va_up σ.2 k f) k g j = va_up σ.2 k g j
  by_cases h : j = k
  · subst h; rw [va_up_self, va_up_self]
  · rw [va_up_ne _ _ h, va_up_ne _ _ h, va_up_ne _ _ h]
theorem up_up {α : Type} (f : Nat → α) (k : Nat) (a b : α) : va_up (va_up f k a) k b = va_up f k b := by
  funext j
  by_cases h : j = k
  · subst h; rw [va_up_self, va_up_self]
  · rw [va_up_ne _ _ h, va_up_ne _ _ h, va_up_ne _ _ h]
theorem setR_same (σ : MS) (k : Nat) (f : Nat → Int32) (h : σ.2 k = f) : setR σ k f = σ := by
  subst h
  show ((σ.1, va_up σ.2 k (σ.2 k)) : MS) = σ
  rw [va_up_id]
  rfl
theorem setR_get (σ : MS) (k : Nat) (f : Nat → Int32) : (setR σ k f).2 k = f := va_up_self _ _ _
theorem setR_gne (σ : MS) {k j : Nat} (f : Nat → Int32) (h : j ≠ k) : (setR σ k f).2 j = σ.2 j := va_up_ne _ _ h
theorem setA_R (σ : MS) (k i : Nat) (x : Int32) : setA σ k i x = setR σ k (upd (σ.2 k) i x) := rfl
theorem cpy_step (s d : Nat → Int32) (sp dp c : Nat) : upd (va_cpy s d sp dp c) (dp + c) (s (sp + c)) = va_cpy s d sp dp (c + 1) := by
  funext j
  by_cases h : j = dp + c
  · subst h
    rw [pk_us]
    unfold va_cpy
    rw [if_pos (by omega)]
    congr 1
    omega
  · rw [pk_un h]
    unfold va_cpy
    by_cases h2 : dp ≤ j ∧ j < dp + c
    · rw [if_pos h2, if_pos (by omega)]
    · rw [if_neg h2, if_neg (by omega)]
theorem cpy_0 (s d : Nat → Int32) (sp dp : Nat) : va_cpy s d sp dp 0 = d := by
  funext j
  unfold va_cpy
  rw [if_neg (by omega)]
theorem cpy_in (s d : Nat → Int32) {sp dp n j : Nat} (h : j < n) : va_cpy s d sp dp n (dp + j) = s (sp + j) := by
  unfold va_cpy
  rw [if_pos (by omega)]
  congr 1
  omega
theorem cpy_out (s d : Nat → Int32) {sp dp n j : Nat} (h : ¬ (dp ≤ j ∧ j < dp + n)) : va_cpy s d sp dp n j = d j := by
  unfold va_cpy
  rw [if_neg h]
theorem k147 (a c : Nat) : (147 * nI a + nI c : Int32) = nI (147 * a + c) := by
  rw [show (147 : Int32) = nI 147 from rfl, pk_mul, nI_add]
theorem keep52_loop (σ : MS) {a : Nat} (ha : a < 24) (ea : σ.1 9 = nI a) (n : Nat) : ∀ (d c : Nat), c + d = 147 → FM_keep_52 (n + d + 1) (setR σ 8 (va_cpy (σ.2 5) (σ.2 8) 0 (147 * a) c)) (nI c) = some (setF (setR σ 8 (va_cpy (σ.2 5) (σ.2 8) 0 (147 * a) 147)) 9 (nI (a + 1))) := by
  intro d
  induction d with
  | zero =>
    intro c hc
    unfold FM_keep_52
    rw [if_pos (show (147 : Int32) ≤ nI c from nI_le (a := 147) (b := c) (by omega) (by omega))]
    obtain rfl : c = 147 := by omega
    show some (setF _ 9 (σ.1 9 + 1)) = _
    rw [ea, ← nI_succ]
  | succ d ih =>
    intro c hc
    unfold FM_keep_52
    rw [if_neg (show ¬ (147 : Int32) ≤ nI c from nI_ge (a := c) (b := 147) (by omega) (by omega)), gd_nI (show c < 147 by omega) (by decide)]
    show gd (¬ ((147 * σ.1 9 + nI c : Int32) < 0 ∨ 3528 ≤ Int32.toNatClampNeg (147 * σ.1 9 + nI c))) (FM_keep_52 (n + (d + 1)) (setR _ 8 (upd ((setR _ 8 _).2 8) (Int32.toNatClampNeg (147 * σ.1 9 + nI c)) (σ.2 5 (nI c).toNatClampNeg))) (nI c + 1)) = _
    rw [ea, k147, gd_nI (show 147 * a + c < 3528 by omega) (by decide), nI_clamp (by omega), nI_clamp (by omega), setR_setR, setR_get, ← nI_succ]
    have := cpy_step (σ.2 5) (σ.2 8) 0 (147 * a) c
    rw [Nat.zero_add] at this
    rw [this]
    exact ih (c + 1) (by omega)
theorem p_keep50 (σ : MS) {a : Nat} (ha : a < 24) (ea : σ.1 9 = nI a) : FM_keep_50 σ = some (setF (setR σ 8 (va_cpy (σ.2 5) (σ.2 8) 0 (147 * a) 147)) 9 (nI (a + 1))) := by
  have := keep52_loop σ ha ea 4852 147 0 (by omega)
  rw [cpy_0, setR_same σ 8 _ rfl] at this
  exact this
theorem keep11_loop (σ : MS) (ea : σ.1 9 = 24) (n : Nat) : ∀ (d c : Nat), c + d = 3381 → FM_keep_11 (n + d + 1) (setR σ 8 (va_cpy (σ.2 8) (σ.2 8) 147 0 c)) (nI c) = FM_keep_50 (setF (setR σ 8 (va_cpy (σ.2 8) (σ.2 8) 147 0 3381)) 9 (nI 23)) := by
  intro d
  induction d with
  | zero =>
    intro c hc
    unfold FM_keep_11
    rw [if_pos (show (3381 : Int32) ≤ nI c from nI_le (a := 3381) (b := c) (by omega) (by omega))]
    obtain rfl : c = 3381 := by omega
    show FM_keep_50 (setF _ 9 (σ.1 9 - 1)) = _
    rw [ea]
    rfl
  | succ d ih =>
    intro c hc
    unfold FM_keep_11
    rw [if_neg (show ¬ (3381 : Int32) ≤ nI c from nI_ge (a := c) (b := 3381) (by omega) (by omega)), show (nI c + 147 : Int32) = nI (c + 147) from by rw [show (147 : Int32) = nI 147 from rfl, nI_add], gd_nI (show c + 147 < 3528 by omega) (by decide), gd_nI (show c < 3528 by omega) (by decide), nI_clamp (by omega), nI_clamp (by omega)]
    show FM_keep_11 (n + (d + 1)) (setR _ 8 (upd ((setR _ 8 _).2 8) c ((setR _ 8 _).2 8 (c + 147)))) (nI c + 1) = _
    rw [setR_setR, setR_get, ← nI_succ, cpy_out _ _ (by omega)]
    have := cpy_step (σ.2 8) (σ.2 8) 147 0 c
    rw [Nat.zero_add, Nat.add_comm 147 c] at this
    rw [this]
    exact ih (c + 1) (by omega)
theorem p_keep24 (σ : MS) (ea : σ.1 9 = 24) : FM_keep σ = some (setF (setR σ 8 (va_cpy (σ.2 5) (va_cpy (σ.2 8) (σ.2 8) 147 0 3381) 0 (147 * 23) 147)) 9 (nI 24)) := by
  unfold FM_keep
  rw [if_pos ea]
  have := keep11_loop σ ea 1618 3381 0 (by omega)
  rw [cpy_0, setR_same σ 8 _ rfl] at this
  show FM_keep_11 5000 σ 0 = _
  rw [show FM_keep_11 5000 σ 0 = _ from this, p_keep50 _ (a := 23) (by decide) rfl]
  show some ((va_up (va_up σ.1 9 (nI 23)) 9 (nI 24), va_up (va_up σ.2 8 _) 8 _) : MS) = some ((va_up σ.1 9 (nI 24), va_up σ.2 8 _) : MS)
  rw [up_up, up_up]
  rfl
theorem RReal.congr {k : Nat} {a b c d : Int32} {w x y z g w' x' y' z' g' : Nat → Int32} (h : RReal k a b c d w x y z g) (hw : ∀ j, j < 64 → w' j = w j) (hx : ∀ j, j < 6 → x' j = x j) (hy : ∀ j, j < 12 → y' j = y j) (hz : ∀ j, j < 61 → z' j = z j) (hg : ∀ j, j < 147 → g' j = g j) : RReal k a b c d w' x' y' z' g' := by
  have hcf := fun {j : Nat} (hj : j < 12) (hl : nI j < d) => h.cf hj hl
  obtain ⟨h1, ⟨b0, b2, b3, b4⟩, h3, h4, h5, h6, h7⟩ := h
  refine ⟨h1, ⟨by rw [hg 0 (by decide)]; exact b0, by rw [hg 2 (by decide)]; exact b2, by rw [hg 3 (by decide)]; exact b3, by rw [hz 60 (by decide), hg 4 (by decide)]; exact b4⟩, by rw [hg 4 (by decide)]; exact h3, h4, fun ht p q hp hq => ?_, fun i hi hl => ?_, fun j hj hl => ?_⟩
  · have := h5 ht p q hp hq
    rw [hw _ (show 8 * p + q < 64 by omega), hw _ (show 8 * q + p < 64 by omega), hg _ (show 5 + 8 * p + q < 147 by omega)]
    exact this
  · have := h6 i hi hl
    rw [hx i hi, hg _ (by omega)]
    exact this
  · obtain ⟨q, t, hq, ht1, ht7, e1, -, -, e3, -⟩ := hcf hj hl
    obtain ⟨g1, g2, g3, g4, g5, g6⟩ := h7 j hj hl
    refine ⟨?_, fun f hf => ?_, ?_, ?_, ?_, ?_⟩
    · rw [hy j hj, hg _ (by omega)]; exact g1
    · rw [hz _ (by omega), hg _ (by omega)]; exact g2 f hf
    · rw [hz _ (by omega)]; exact g3
    · rw [hz _ (by omega), hg 4 (by decide)]; exact g4
    · rw [hz _ (by omega)]; exact g5
    · rw [hz _ (by omega), hz _ (by omega), hz _ (by omega), hz _ (by omega), hy j hj]
      rw [e1, nI_clamp (by omega), e3, nI_clamp (by omega)] at g6
      rw [e1, nI_clamp (by omega), hx q hq, e3, nI_clamp (by omega), hw _ (by omega)]
      exact g6
theorem mod24 : ∀ q, q < 24 → (nI q + 1 : Int32) - (nI q + 1) / 24 * 24 = nI ((q + 1) % 24) := by decide +kernel
theorem mod24b : ∀ q, q < 24 → (nI q + 24 - 1 : Int32) - (nI q + 24 - 1) / 24 * 24 = nI ((q + 23) % 24) := by decide +kernel
theorem min24 : ∀ n, n < 24 → (if (24 : Int32) < nI n + 1 then (24 : Int32) else nI n + 1) = nI (n + 1) := by decide +kernel
/-- an act is kept on both sides -/
theorem p_keep {k : Nat} {σL σK σ : MS} (hA : RActs k σL σK (σ.1 9) (σ.2 8)) (h : RReal k (σL.1 4) (σL.1 5) (σL.1 6) (σL.1 7) (σL.2 0) (σL.2 1) (σL.2 2) (σL.2 3) (σ.2 5)) (h1 : σL.1 4 = 1) : ∃ (σK' : MS) (w : Nat → Int32) (a : Int32), FK_keep σK (vOf σL 3) = some σK' ∧ FM_keep σ = some (setF (setR σ 8 w) 9 a) ∧ RActs k σL σK' a w := by
  obtain ⟨n, q, hn, hq, e1, e2, e3, -, hr⟩ := hA
  have eK : FK_keep σK (vOf σL 3) = some (setF (setF (setR σK q (va_cpy (σL.2 3) (σK.2 q) 0 0 61)) 1 (nI ((q + 1) % 24))) 2 (if (24 : Int32) < nI n + 1 then 24 else nI n + 1)) := by
    unfold FK_keep
    rw [e3, gd_nI hq (by decide), nI_clamp (by omega)]
    show some (setF (setF (setR σK q (va_cpy (σL.2 3) (σK.2 q) 0 0 61)) 1 ((σK.1 1 + 1) - (σK.1 1 + 1) / 24 * 24)) 2 (if (24 : Int32) < σK.1 2 + 1 then 24 else σK.1 2 + 1)) = _
    rw [e3, e1, mod24 q hq]
  by_cases h24 : n = 24
  · subst h24
    refine ⟨_, _, _, eK, p_keep24 σ e2, 24, (q + 1) % 24, by omega, by omega, rfl, rfl, rfl, Or.inr h1, fun i hi => ?_⟩
    have ei : (((q + 1) % 24) + 24 - 24 + i) % 24 = (q + 1 + i) % 24 := by omega
    rw [ei]
    by_cases hi23 : i = 23
    · subst hi23
      have eq : (q + 1 + 23) % 24 = q := by omega
      rw [eq]
      refine h.congr (fun _ _ => rfl) (fun _ _ => rfl) (fun _ _ => rfl) (fun j hj => ?_) (fun j hj => ?_)
      · show va_up σK.2 q _ q j = _
        rw [va_up_self]
        have := cpy_in (σL.2 3) (σK.2 q) (sp := 0) (dp := 0) hj
        rw [Nat.zero_add] at this
        exact this
      · have := cpy_in (σ.2 5) (va_cpy (σ.2 8) (σ.2 8) 147 0 3381) (sp := 0) (dp := 147 * 23) hj
        rw [Nat.zero_add] at this
        exact this
    · have := hr (i + 1) (by omega)
      rw [show (q + 24 - 24 + (i + 1)) % 24 = (q + 1 + i) % 24 from by omega] at this
      refine this.congr (fun _ _ => rfl) (fun _ _ => rfl) (fun _ _ => rfl) (fun j hj => ?_) (fun j hj => ?_)
      · show va_up σK.2 q _ ((q + 1 + i) % 24) j = _
        rw [va_up_ne _ _ (by omega)]
      · show va_cpy (σ.2 5) (va_cpy (σ.2 8) (σ.2 8) 147 0 3381) 0 (147 * 23) 147 (147 * i + j) = σ.2 8 (147 * (i + 1) + j)
        rw [cpy_out _ _ (by omega)]
        have := cpy_in (σ.2 8) (σ.2 8) (sp := 147) (dp := 0) (n := 3381) (j := 147 * i + j) (by omega)
        rw [Nat.zero_add] at this
        rw [this, show 147 + (147 * i + j) = 147 * (i + 1) + j from by omega]
  · have hn : n < 24 := by omega
    have eM : FM_keep σ = some (setF (setR σ 8 (va_cpy (σ.2 5) (σ.2 8) 0 (147 * n) 147)) 9 (nI (n + 1))) := by
      unfold FM_keep
      rw [if_neg (fun z => h24 (by
        rw [e2] at z
        have := congrArg Int32.toInt z
        rw [nI_toInt (by omega)] at this
        have e : (24 : Int32).toInt = 24 := by decide
        omega)), p_keep50 σ hn e2]
    rw [min24 n hn] at eK
    refine ⟨_, _, _, eK, eM, n + 1, (q + 1) % 24, by omega, by omega, rfl, rfl, rfl, Or.inr h1, fun i hi => ?_⟩
    by_cases hin : i = n
    · subst hin
      have ei : (((q + 1) % 24) + 24 - (i + 1) + i) % 24 = q := by omega
      rw [ei]
      refine h.congr (fun _ _ => rfl) (fun _ _ => rfl) (fun _ _ => rfl) (fun j hj => ?_) (fun j hj => ?_)
      · show va_up σK.2 q _ q j = _
        rw [va_up_self]
        have := cpy_in (σL.2 3) (σK.2 q) (sp := 0) (dp := 0) hj
        rw [Nat.zero_add] at this
        exact this
      · have := cpy_in (σ.2 5) (σ.2 8) (sp := 0) (dp := 147 * i) hj
        rw [Nat.zero_add] at this
        exact this
    · have := hr i (by omega)
      have ei : (((q + 1) % 24) + 24 - (n + 1) + i) % 24 = (q + 24 - n + i) % 24 := by omega
      rw [ei]
      refine this.congr (fun _ _ => rfl) (fun _ _ => rfl) (fun _ _ => rfl) (fun j hj => ?_) (fun j hj => ?_)
      · show va_up σK.2 q _ ((q + 24 - n + i) % 24) j = _
        rw [va_up_ne _ _ (by omega)]
      · show va_cpy (σ.2 5) (σ.2 8) 0 (147 * n) 147 (147 * i + j) = σ.2 8 (147 * i + j)
        rw [cpy_out _ _ (by omega)]
