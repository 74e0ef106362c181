/-! PURE: row -/
def zeroA (σ : MS) (r i : Nat) : MS := (σ.1, va_up σ.2 4 (fun j => if 40 * r + i ≤ j ∧ j < 40 * r + 40 then 0 else σ.2 4 j))
theorem zeroA_40 (σ : MS) (r : Nat) : zeroA σ r 40 = σ := by
  unfold zeroA
  have e : (fun j => if 40 * r + 40 ≤ j ∧ j < 40 * r + 40 then 0 else σ.2 4 j) = σ.2 4 := by
    funext j
    rw [if_neg (by omega)]
  rw [e, va_up_id]
  rfl
theorem zeroA_s (σ : MS) {r i : Nat} (hi : i < 40) : zeroA (setA σ 4 (40 * r + i) 0) r (i + 1) = zeroA σ r i := by
  refine Prod.ext rfl (funext fun k => ?_)
  show va_up (va_up σ.2 4 (upd (σ.2 4) (40 * r + i) 0)) 4 (fun j => if 40 * r + (i + 1) ≤ j ∧ j < 40 * r + 40 then (0 : Int32) else va_up σ.2 4 (upd (σ.2 4) (40 * r + i) 0) 4 j) k = va_up σ.2 4 (fun j => if 40 * r + i ≤ j ∧ j < 40 * r + 40 then (0 : Int32) else σ.2 4 j) k
  by_cases hk : k = 4
  · subst hk
    rw [va_up_self, va_up_self]
    funext j
    rw [va_up_self]
    by_cases h1 : 40 * r + (i + 1) ≤ j ∧ j < 40 * r + 40
    · rw [if_pos h1, if_pos (by omega)]
    · rw [if_neg h1]
      by_cases h2 : j = 40 * r + i
      · subst h2
        rw [pk_us, if_pos (by omega)]
      · rw [pk_un h2, if_neg (by omega)]
  · rw [va_up_ne _ _ hk, va_up_ne _ _ hk, va_up_ne _ _ hk]
theorem l_row {r : Nat} (hr : r < 8) (x : Int32) : ∀ (d i n : Nat) (σ : MS), i + d = 40 → FM_row_65 (n + d + 1) σ (nI r) x (nI i) = some (x, zeroA σ r i) := by
  intro d
  induction d with
  | zero =>
    intro i n σ hi
    have hi : i = 40 := by omega
    subst hi
    rw [FM_row_65, zeroA_40]
    rfl
  | succ d ih =>
    intro i n σ hi
    show FM_row_65 ((n + d + 1) + 1) σ (nI r) x (nI i) = _
    rw [FM_row_65, if_neg (show ¬ (40 : Int32) ≤ nI i from nI_ge (a := i) (b := 40) (by omega) (by decide))]
    have e : (40 * nI r + nI i : Int32) = nI (40 * r + i) := by
      rw [show (40 : Int32) = nI 40 from rfl, pk_mul, nI_add]
    rw [e, gd_nI (by omega) (by decide), nI_clamp (by omega)]
    show FM_row_65 (n + d + 1) (setA σ 4 (40 * r + i) 0) (nI r) x (nI i + 1) = _
    rw [nI_1, ih (i + 1) n _ (by omega), zeroA_s σ (by omega)]
def lay1 (w : MS) (a2 a3 : Int32) : MS := setF (setF (setR w 0 (kfill 40 0 (w.2 0))) 1 a2) 2 a3
def row1 (σ : MS) (r : Nat) (a2 a3 : Int32) : MS := setA (setA (setF (setF σ 0 0) 1 0) 2 r a2) 3 r a3
theorem sim_row : Sim_row Rel := by
  intro k σP σL σG σR σT σC σA σK ω ι σ a1 a2 a3 hk h
  obtain ⟨⟨p1, p2⟩, hR, h3, h4, h5, h6, h7⟩ := Rel.mono _ _ _ _ _ _ _ _ _ _ _ _ h
  by_cases hc : 0 ≤ a1 ∧ a1 ≤ 7
  · obtain ⟨r, hr, rfl⟩ := ix7 hc
    by_cases hl : 0 ≤ a2 ∧ a2 ≤ 2
    · by_cases h40 : a3 ≤ 40
      · by_cases h0 : 0 ≤ a3
        · refine ⟨a3, setF σP 9 0, va_up ω r (lay1 (ω r) a2 a3), zeroA (row1 σ r a2 a3) r 0, ?_, ?_, ⟨⟨rfl, p2⟩, ?_, h3, h4, h5, h6, h7⟩⟩
          · unfold FP_row
            rw [p_noRow, if_pos hc]
            show Option.bind (FP_outside a2 0 2) _ = _
            rw [p_outside, if_pos hl]
            show (if a3 ≤ 40 then _ else _) = _
            rw [if_pos h40, if_pos h0, gd_nI hr (by decide), nI_clamp (by omega), gd_t hr]
            rfl
          · unfold FM_row
            show Option.bind (FM_isRow (nI r)) _ = _
            rw [p_isRow, if_pos hc]
            show Option.bind (FM_in (Int32.toInt64 a2) 0 2) _ = _
            rw [show FM_in (Int32.toInt64 a2) 0 2 = _ from p_in a2 0 2, if_pos hl]
            show (if a3 ≤ 40 then _ else _) = _
            rw [if_pos h40]
            show (if 0 ≤ a3 then _ else _) = _
            rw [if_pos h0, gd_nI hr (by decide)]
            show gd _ _ = _
            rw [gd_nI hr (by decide), nI_clamp (by omega)]
            show FM_row_65 (4959 + 40 + 1) (row1 σ r a2 a3) (nI r) a3 (nI 0) = _
            rw [l_row hr a3 40 0 4959 _ (by omega)]
          · intro r' hr'
            by_cases hrr : r' = r
            · subst hrr
              show (va_up ω r' (lay1 (ω r') a2 a3) r').1 1 = upd (σ.2 2) r' a2 r' ∧ (upd (σ.2 2) r' a2 r' = -1 ∨ (0 ≤ upd (σ.2 2) r' a2 r' ∧ upd (σ.2 2) r' a2 r' ≤ 2 ∧ (va_up ω r' (lay1 (ω r') a2 a3) r').1 2 = upd (σ.2 3) r' a3 r' ∧ 0 ≤ upd (σ.2 3) r' a3 r' ∧ upd (σ.2 3) r' a3 r' ≤ 40 ∧ ∀ j : Nat, j < 40 → (va_up ω r' (lay1 (ω r') a2 a3) r').2 0 j = (if 40 * r' + 0 ≤ 40 * r' + j ∧ 40 * r' + j < 40 * r' + 40 then 0 else σ.2 4 (40 * r' + j))))
              rw [va_up_self, pk_us, pk_us]
              refine ⟨rfl, Or.inr ⟨hl.1, hl.2, rfl, h0, h40, fun j hj => ?_⟩⟩
              rw [if_pos (by omega)]
              show (if j < 40 then (0 : Int32) else _) = 0
              rw [if_pos hj]
            · have h9 := hR r' hr'
              show (va_up ω r (lay1 (ω r) a2 a3) r').1 1 = upd (σ.2 2) r a2 r' ∧ (upd (σ.2 2) r a2 r' = -1 ∨ (0 ≤ upd (σ.2 2) r a2 r' ∧ upd (σ.2 2) r a2 r' ≤ 2 ∧ (va_up ω r (lay1 (ω r) a2 a3) r').1 2 = upd (σ.2 3) r a3 r' ∧ 0 ≤ upd (σ.2 3) r a3 r' ∧ upd (σ.2 3) r a3 r' ≤ 40 ∧ ∀ j : Nat, j < 40 → (va_up ω r (lay1 (ω r) a2 a3) r').2 0 j = (if 40 * r + 0 ≤ 40 * r' + j ∧ 40 * r' + j < 40 * r + 40 then 0 else σ.2 4 (40 * r' + j))))
              rw [va_up_ne _ _ hrr, pk_un hrr, pk_un hrr]
              refine ⟨h9.1, h9.2.imp id (fun q => ⟨q.1, q.2.1, q.2.2.1, q.2.2.2.1, q.2.2.2.2.1, fun j hj => ?_⟩)⟩
              rw [if_neg (by omega)]
              exact q.2.2.2.2.2 j hj
        · refine ⟨-1000010 - 4, setF σP 9 4, ω, setF (setF (setF σ 0 0) 1 0) 1 4, ?_, ?_, ⟨⟨rfl, p2⟩, hR, h3, h4, h5, h6, h7⟩⟩
          · unfold FP_row
            rw [p_noRow, if_pos hc]
            show Option.bind (FP_outside a2 0 2) _ = _
            rw [p_outside, if_pos hl]
            show (if a3 ≤ 40 then _ else _) = _
            rw [if_pos h40, if_neg h0]
            rfl
          · unfold FM_row
            show Option.bind (FM_isRow (nI r)) _ = _
            rw [p_isRow, if_pos hc]
            show Option.bind (FM_in (Int32.toInt64 a2) 0 2) _ = _
            rw [show FM_in (Int32.toInt64 a2) 0 2 = _ from p_in a2 0 2, if_pos hl]
            show (if a3 ≤ 40 then _ else _) = _
            rw [if_pos h40]
            show (if 0 ≤ a3 then _ else _) = _
            rw [if_neg h0]
            rfl
      · refine ⟨-1000001, σP, ω, setF σ 0 0, ?_, ?_, ⟨⟨p1, p2⟩, hR, h3, h4, h5, h6, h7⟩⟩
        · unfold FP_row
          rw [p_noRow, if_pos hc]
          show Option.bind (FP_outside a2 0 2) _ = _
          rw [p_outside, if_pos hl]
          show (if a3 ≤ 40 then _ else _) = _
          rw [if_neg h40]
        · unfold FM_row
          show Option.bind (FM_isRow (nI r)) _ = _
          rw [p_isRow, if_pos hc]
          show Option.bind (FM_in (Int32.toInt64 a2) 0 2) _ = _
          rw [show FM_in (Int32.toInt64 a2) 0 2 = _ from p_in a2 0 2, if_pos hl]
          show (if a3 ≤ 40 then _ else _) = _
          rw [if_neg h40]
    · refine ⟨-1000001, σP, ω, setF σ 0 0, ?_, ?_, ⟨⟨p1, p2⟩, hR, h3, h4, h5, h6, h7⟩⟩
      · unfold FP_row
        rw [p_noRow, if_pos hc]
        show Option.bind (FP_outside a2 0 2) _ = _
        rw [p_outside, if_neg hl]
        rfl
      · unfold FM_row
        show Option.bind (FM_isRow (nI r)) _ = _
        rw [p_isRow, if_pos hc]
        show Option.bind (FM_in (Int32.toInt64 a2) 0 2) _ = _
        rw [show FM_in (Int32.toInt64 a2) 0 2 = _ from p_in a2 0 2, if_neg hl]
        rfl
  · refine ⟨-1000001, σP, ω, setF σ 0 0, ?_, ?_, ⟨⟨p1, p2⟩, hR, h3, h4, h5, h6, h7⟩⟩
    · unfold FP_row
      rw [p_noRow, if_neg hc]
      rfl
    · unfold FM_row
      show Option.bind (FM_isRow a1) _ = _
      rw [p_isRow, if_neg hc]
      rfl
