/-! PURE: coins by number; kind; rows -/
theorem gd_cl {β : Type} {j N : Nat} (h : j < N) (hN : N < 2 ^ 31) (x : Option β) : gd (¬ ((nI j : Int32) < 0 ∨ N ≤ j)) x = x := gd_t (by
  rintro (h1 | h1)
  · exact nI_pos (by omega) h1
  · omega)
theorem ix7 {x : Int32} (hc : 0 ≤ x ∧ x ≤ 7) : ∃ r : Nat, r < 8 ∧ x = nI r := by
  obtain ⟨r, hr, e⟩ := nI_of2 (M := 7) (n := 7) (by decide) (Int32.not_lt.mpr hc.1) hc.2
  exact ⟨r, by omega, e⟩
theorem p_noCoin (σL : MS) (x : Int32) : FP_noCoin σL x = some (if 0 ≤ x ∧ x ≤ σL.1 7 - 1 then 0 else 1) := by
  unfold FP_noCoin
  rw [p_outside]
  by_cases h : 0 ≤ x ∧ x ≤ σL.1 7 - 1
  · simp [h, gd]
  · simp [h, gd]
theorem p_isCoin (σ : MS) (x : Int32) : FM_isCoin σ x = some (if 0 ≤ x ∧ x ≤ σ.2 5 3 - 1 then 1 else 0) := by
  unfold FM_isCoin
  rw [gd_t (by decide), show Int32.toNatClampNeg 3 = 3 from by decide, show FM_in (Int32.toInt64 x) 0 (Int32.toInt64 (σ.2 5 3 - 1)) = _ from p_in x 0 (σ.2 5 3 - 1)]
  by_cases h : 0 ≤ x ∧ x ≤ σ.2 5 3 - 1
  · simp [h, gd]
  · simp [h, gd]
theorem p_of (σ : MS) {c f : Nat} (h : 75 + 6 * c + f < 147) : FM_of σ (nI c) (nI f) = some (σ.2 5 (75 + 6 * c + f)) := by
  unfold FM_of
  have e : (75 + 6 * nI c + nI f : Int32) = nI (75 + 6 * c + f) := by
    rw [show (6 : Int32) = nI 6 from rfl, pk_mul, show (75 : Int32) = nI 75 from rfl, nI_add, nI_add]
  rw [e, gd_nI h (by decide), nI_clamp (by omega)]
theorem p_about (σL : MS) {c f : Nat} (h : 5 * c + f < 61) : FL_about σL (nI c) (nI f) = some (σL.2 3 (5 * c + f)) := by
  unfold FL_about
  have e : (nI c * 5 + nI f : Int32) = nI (5 * c + f) := by
    rw [show (5 : Int32) = nI 5 from rfl, pk_mul, nI_add, Nat.mul_comm]
  rw [e, gd_nI h (by decide), nI_clamp (by omega)]
/-- a coin's number, as both sides test it -/
theorem Rel.coin {k : Nat} {σP σL σG σR σT σC σA σK : MS} {ω ι : Nat → MS} {σ : MS} (h : Rel k σP σL σG σR σT σC σA σK ω ι σ) : σ.2 5 3 = σL.1 7 ∧ ∀ {x : Int32}, (0 ≤ x ∧ x ≤ σL.1 7 - 1) → ∃ j : Nat, j < 12 ∧ x = nI j ∧ nI j < σL.1 7 := by
  obtain ⟨-, ⟨-, -, e3, -⟩, ⟨-, -, -, -, b1, b2, -, -⟩, -⟩ := h.2.2.2.1.2
  exact ⟨e3.symm, fun hc => ixc (N := 12) (by decide) b1 b2 hc⟩
theorem sim_kind : Sim_kind Rel := by
  intro k σP σL σG σR σT σC σA σK ω ι σ a1 hk h
  obtain ⟨ec, hco⟩ := h.coin
  have hm := Rel.mono _ _ _ _ _ _ _ _ _ _ _ _ h
  by_cases hc : 0 ≤ a1 ∧ a1 ≤ σL.1 7 - 1
  · obtain ⟨j, hj, rfl, hl⟩ := hco hc
    refine ⟨σL.2 2 j, setF σ 0 0, ?_, ?_, hm⟩
    · unfold FP_kind
      rw [p_noCoin, if_pos hc]
      show gd _ _ = _
      rw [gd_nI hj (by decide), nI_clamp (by omega)]
    · unfold FM_kind
      show Option.bind (FM_isCoin (setF σ 0 0) (nI j)) _ = _
      rw [p_isCoin, if_pos (by show 0 ≤ nI j ∧ nI j ≤ σ.2 5 3 - 1; rw [ec]; exact hc)]
      show Option.bind (FM_of (setF σ 0 0) (nI j) (nI 0)) _ = _
      rw [p_of _ (by omega)]
      obtain ⟨⟨g1, -⟩, -⟩ := h.2.2.2.1.2.2.2.2.2.2.2 j hj hl
      show some (σ.2 5 (75 + 6 * j + 0), setF σ 0 0) = _
      rw [g1]
      rfl
  · refine ⟨-1000001, setF σ 0 0, ?_, ?_, hm⟩
    · unfold FP_kind
      rw [p_noCoin, if_neg hc]
      rfl
    · unfold FM_kind
      show Option.bind (FM_isCoin (setF σ 0 0) a1) _ = _
      rw [p_isCoin, if_neg (by show ¬ (0 ≤ a1 ∧ a1 ≤ σ.2 5 3 - 1); rw [ec]; exact hc)]
      rfl
theorem f_drop (σP : MS) (ω : Nat → MS) {r : Nat} (hr : r < 8) : FP_drop σP ω (nI r) = if (ω r).1 1 = -1 then some (-1000010 - 1, setF σP 9 1, ω) else some ((ω r).1 2, setF σP 9 0, va_up ω r (setF (setF (ω r) 1 (-1)) 2 0)) := by
  have hc : (0 : Int32) ≤ nI r ∧ nI r ≤ 7 := ⟨nI_pos' (by omega), nI_le (a := r) (b := 7) (by omega) (by decide)⟩
  unfold FP_drop
  rw [p_noRow, if_pos hc]
  show gd _ _ = _
  rw [gd_nI hr (by decide), nI_clamp (by omega), gd_t hr]
  unfold FW_missing
  by_cases hm : (ω r).1 1 = -1
  · rw [if_pos hm, if_pos hm]; rfl
  · rw [if_neg hm, if_neg hm]
    show gd _ _ = _
    rw [gd_t hr]
    show gd _ _ = _
    rw [gd_t hr]
    rfl
theorem m_drop (σ : MS) {r : Nat} (hr : r < 8) : FM_drop σ (nI r) = if 0 ≤ σ.2 2 r then some (σ.2 3 r, setA (setF (setF σ 0 0) 1 0) 2 r (-1)) else some (-1000010 - 1, setF (setF (setF σ 0 0) 1 0) 1 1) := by
  have hc : (0 : Int32) ≤ nI r ∧ nI r ≤ 7 := ⟨nI_pos' (by omega), nI_le (a := r) (b := 7) (by omega) (by decide)⟩
  unfold FM_drop
  show Option.bind (FM_isRow (nI r)) _ = _
  rw [p_isRow, if_pos hc]
  show gd _ _ = _
  rw [gd_nI hr (by decide), nI_clamp (by omega)]
  show (if 0 ≤ σ.2 2 r then _ else _) = _
  by_cases hm : 0 ≤ σ.2 2 r
  · rw [if_pos hm, if_pos hm, gd_cl hr (by decide)]
    show gd _ _ = _
    rw [gd_cl hr (by decide)]
    rfl
  · rw [if_neg hm, if_neg hm]; rfl
theorem m1_neg : ¬ (0 : Int32) ≤ -1 := by decide
theorem sim_drop : Sim_drop Rel := by
  intro k σP σL σG σR σT σC σA σK ω ι σ a1 hk h
  obtain ⟨⟨p1, p2⟩, hR, h3, h4, h5, h6, h7⟩ := Rel.mono _ _ _ _ _ _ _ _ _ _ _ _ h
  by_cases hc : 0 ≤ a1 ∧ a1 ≤ 7
  · obtain ⟨r, hr, rfl⟩ := ix7 hc
    obtain ⟨e1, e2⟩ := hR r hr
    rcases e2 with e2 | ⟨e2, e3, e4, e5, e6, e7⟩
    · refine ⟨-1000010 - 1, setF σP 9 1, ω, setF (setF (setF σ 0 0) 1 0) 1 1, ?_, ?_, ⟨⟨rfl, p2⟩, hR, h3, h4, h5, h6, h7⟩⟩
      · rw [f_drop σP ω hr, if_pos (e1.trans e2)]
      · rw [m_drop σ hr, if_neg (by rw [e2]; exact m1_neg)]
    · refine ⟨σ.2 3 r, setF σP 9 0, va_up ω r (setF (setF (ω r) 1 (-1)) 2 0), setA (setF (setF σ 0 0) 1 0) 2 r (-1), ?_, ?_, ⟨⟨rfl, p2⟩, ?_, h3, h4, h5, h6, h7⟩⟩
      · rw [f_drop σP ω hr, if_neg (fun z => m1_neg (by rw [e1] at z; rw [z] at e2; exact e2)), e4]
      · rw [m_drop σ hr, if_pos e2]
      · intro r' hr'
        by_cases hrr : r' = r
        · subst hrr
          refine ⟨?_, Or.inl ?_⟩
          · show (va_up ω r' _ r').1 1 = upd (σ.2 2) r' (-1) r'
            rw [va_up_self, pk_us]; rfl
          · show upd (σ.2 2) r' (-1) r' = -1
            rw [pk_us]
        · have h9 := hR r' hr'
          show (va_up ω r _ r').1 1 = upd (σ.2 2) r (-1) r' ∧ (upd (σ.2 2) r (-1) r' = -1 ∨ (0 ≤ upd (σ.2 2) r (-1) r' ∧ upd (σ.2 2) r (-1) r' ≤ 2 ∧ (va_up ω r _ r').1 2 = σ.2 3 r' ∧ 0 ≤ σ.2 3 r' ∧ σ.2 3 r' ≤ 40 ∧ ∀ j : Nat, j < 40 → (va_up ω r _ r').2 0 j = σ.2 4 (40 * r' + j)))
          rw [va_up_ne _ _ hrr, pk_un hrr]
          exact h9
  · refine ⟨-1000001, σP, ω, setF σ 0 0, ?_, ?_, ⟨⟨p1, p2⟩, hR, h3, h4, h5, h6, h7⟩⟩
    · unfold FP_drop
      rw [p_noRow, if_neg hc]
      rfl
    · unfold FM_drop
      show Option.bind (FM_isRow a1) _ = _
      rw [p_isRow, if_neg hc]
      rfl
