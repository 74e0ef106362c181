/-! PURE: set -/
theorem p_holds (w : MS) {a b m : Nat} (ha : a < 2 ^ 31) (hb : b < 2 ^ 31) (hm : m < 2 ^ 31) (hw : w.1 2 = nI m) : FW_holds w (nI a) (nI b) = some (if a + b ≤ m then 1 else 0) := by
  unfold FW_holds
  rw [if_neg (nI_pos ha), if_neg (nI_pos hb), hw, nI_l ha, nI_l hb, nI_l hm, lN_add]
  by_cases h : a + b ≤ m
  · rw [if_neg (by rw [lg_cmp_gt, pk_lLT (by omega) (by omega)]; omega), if_pos h]
  · rw [if_pos (by rw [lg_cmp_gt, pk_lLT (by omega) (by omega)]; omega), if_neg h]
theorem p_holds_neg (w : MS) {i : Int32} (n : Int32) (h : i < 0) : FW_holds w i n = some 0 := by
  unfold FW_holds
  rw [if_pos h]
theorem ixm {x : Int32} {m : Nat} (hm : m < 2 ^ 30) : (0 ≤ x ∧ x ≤ nI m - 1) ↔ ∃ a : Nat, a < m ∧ x = nI a := by
  constructor
  · intro h
    obtain ⟨j, hj, e, hl⟩ := ixc (N := m) hm (nI_pos' (by omega)) (nI_le (Nat.le_refl _) (by omega)) h
    exact ⟨j, hj, e⟩
  · rintro ⟨a, ha, rfl⟩
    refine ⟨nI_pos' (by omega), ?_⟩
    obtain ⟨m', rfl⟩ : ∃ m', m = m' + 1 := ⟨m - 1, by omega⟩
    rw [nI_pred]
    exact nI_le (by omega) (by omega)
def laneV (lane x : Int32) : Int32 := if lane = 0 then (Int32.toInt8 x).toInt32 else if lane = 1 then (Int32.toInt16 x).toInt32 else x
theorem p_put (w : MS) {a : Nat} (ha : a < 40) (x : Int32) : FW_put w (nI a) x = some (laneV (w.1 1) x, setA w 0 a (laneV (w.1 1) x)) := by
  unfold FW_put laneV
  by_cases h0 : w.1 1 = 0
  · rw [if_pos h0, if_pos h0]
    show FW_put_26 w (nI a) _ = _
    unfold FW_put_26
    rw [gd_nI ha (by decide), nI_clamp (by omega)]
    rfl
  · rw [if_neg h0, if_neg h0]
    by_cases h1 : w.1 1 = 1
    · rw [if_pos h1, if_pos h1]
      show FW_put_26 w (nI a) _ = _
      unfold FW_put_26
      rw [gd_nI ha (by decide), nI_clamp (by omega)]
      rfl
    · rw [if_neg h1, if_neg h1]
      unfold FW_put_26
      rw [gd_nI ha (by decide), nI_clamp (by omega)]
      rfl
theorem p_set99 (σ : MS) {r a : Nat} (hr : r < 8) (ha : a < 40) (v : Int32) : FM_set_99 σ (nI r) (nI a) v (40 * nI r + nI a) = some (v, setA σ 4 (40 * r + a) v) := by
  have e : (40 * nI r + nI a : Int32) = nI (40 * r + a) := by
    rw [show (40 : Int32) = nI 40 from rfl, pk_mul, nI_add]
  unfold FM_set_99
  rw [e, gd_nI (by omega) (by decide), nI_clamp (by omega)]
  show gd _ _ = _
  rw [gd_cl (by omega) (by decide)]
  show some (va_up σ.2 4 (upd (σ.2 4) (40 * r + a) v) 4 (40 * r + a), setA σ 4 (40 * r + a) v) = _
  rw [va_up_self, pk_us]
/-- an item of one row changes on both sides -/
theorem RRows.put {ω : Nat → MS} {lane many item : Nat → Int32} (hR : RRows ω lane many item) {r a : Nat} (hr : r < 8) (ha : a < 40) (v : Int32) : RRows (va_up ω r (setA (ω r) 0 a v)) lane many (upd item (40 * r + a) v) := by
  intro r' hr'
  by_cases hrr : r' = r
  · subst hrr
    rw [va_up_self]
    obtain ⟨e1, e2⟩ := hR r' hr'
    refine ⟨e1, e2.imp id (fun q => ⟨q.1, q.2.1, q.2.2.1, q.2.2.2.1, q.2.2.2.2.1, fun j hj => ?_⟩)⟩
    show va_up (ω r').2 0 (upd ((ω r').2 0) a v) 0 j = _
    rw [va_up_self]
    by_cases hj2 : j = a
    · subst hj2; rw [pk_us, pk_us]
    · rw [pk_un hj2, pk_un (by omega)]
      exact q.2.2.2.2.2 j hj
  · rw [va_up_ne _ _ hrr]
    obtain ⟨e1, e2⟩ := hR r' hr'
    refine ⟨e1, e2.imp id (fun q => ⟨q.1, q.2.1, q.2.2.1, q.2.2.2.1, q.2.2.2.2.1, fun j hj => ?_⟩)⟩
    rw [pk_un (by omega)]
    exact q.2.2.2.2.2 j hj
theorem sim_set : Sim_set Rel := by
  intro k σP σL σG σR σT σC σA σK ω ι σ a1 a2 a3 hk h
  obtain ⟨⟨p1, p2⟩, hR, h3, h4, h5, h6, h7⟩ := Rel.mono _ _ _ _ _ _ _ _ _ _ _ _ h
  by_cases hc : 0 ≤ a1 ∧ a1 ≤ 7
  · obtain ⟨r, hr, rfl⟩ := ix7 hc
    have C1 : FP_set σP ω (nI r) a2 a3 = if (ω r).1 1 = -1 then some (-1000010 - 1, setF σP 9 1, ω) else Option.bind (FW_holds (ω r) a2 1) fun r7 => if r7 = 0 then some (-1000010 - 2, setF σP 9 2, ω) else bd2 (FW_put (ω r) a2 a3) fun v w => some (v, setF σP 9 0, va_up ω r w) := by
      unfold FP_set
      rw [p_noRow, if_pos hc]
      show gd _ _ = _
      rw [gd_nI hr (by decide), nI_clamp (by omega), gd_t hr]
      unfold FW_missing
      by_cases hm : (ω r).1 1 = -1
      · rw [if_pos hm, if_pos hm]; rfl
      · rw [if_neg hm, if_neg hm]
        show gd _ _ = _
        rw [gd_t hr]
        refine congrArg (fun f => Option.bind (FW_holds (ω r) a2 1) f) (funext fun r7 => ?_)
        by_cases h7 : r7 = 0
        · rw [if_pos h7, if_pos h7]; rfl
        · rw [if_neg h7, if_neg h7, gd_t hr]; rfl
    have M1 : FM_set σ (nI r) a2 a3 = if 0 ≤ σ.2 2 r then Option.bind (FM_in (Int32.toInt64 a2) 0 (Int32.toInt64 (σ.2 3 r - 1))) fun r8 => if r8 = 0 then some (-1000010 - 2, setF (setF (setF σ 0 0) 1 0) 1 2) else FM_set_99 (setF (setF σ 0 0) 1 0) (nI r) a2 (laneV (σ.2 2 r) a3) (40 * nI r + a2) else some (-1000010 - 1, setF (setF (setF σ 0 0) 1 0) 1 1) := by
      unfold FM_set
      show Option.bind (FM_isRow (nI r)) _ = _
      rw [p_isRow, if_pos hc]
      show gd _ _ = _
      rw [gd_nI hr (by decide), nI_clamp (by omega)]
      show (if 0 ≤ σ.2 2 r then _ else _) = _
      by_cases hm : 0 ≤ σ.2 2 r
      · rw [if_pos hm, if_pos hm, gd_cl hr (by decide)]
        refine congrArg (fun f => Option.bind (FM_in (Int32.toInt64 a2) 0 (Int32.toInt64 (σ.2 3 r - 1))) f) (funext fun r8 => ?_)
        by_cases h8 : r8 = 0
        · rw [if_pos h8, if_pos h8]; rfl
        · rw [if_neg h8, if_neg h8, gd_cl hr (by decide)]
          unfold laneV
          show (if σ.2 2 r = 0 then _ else _) = _
          by_cases l0 : σ.2 2 r = 0
          · rw [if_pos l0, if_pos l0]
          · rw [if_neg l0, if_neg l0, gd_cl hr (by decide)]
            show (if σ.2 2 r = 1 then _ else _) = _
            by_cases l1 : σ.2 2 r = 1
            · rw [if_pos l1, if_pos l1]
            · rw [if_neg l1, if_neg l1]
      · rw [if_neg hm, if_neg hm]; rfl
    obtain ⟨e1, e2⟩ := hR r hr
    rcases e2 with e2 | ⟨e2, e3, e4, e5, e6, e7⟩
    · refine ⟨-1000010 - 1, setF σP 9 1, ω, setF (setF (setF σ 0 0) 1 0) 1 1, ?_, ?_, ⟨⟨rfl, p2⟩, hR, h3, h4, h5, h6, h7⟩⟩
      · rw [C1, if_pos (e1.trans e2)]
      · rw [M1, if_neg (by rw [e2]; exact m1_neg)]
    · obtain ⟨m, hm, em⟩ := nI_of2 (x := σ.2 3 r) (M := 40) (n := 40) (by decide) (Int32.not_lt.mpr e5) e6
      have hn1 : ¬ (ω r).1 1 = -1 := fun z => m1_neg (by rw [e1] at z; rw [z] at e2; exact e2)
      by_cases hi : 0 ≤ a2 ∧ a2 ≤ nI m - 1
      · obtain ⟨a, ha, rfl⟩ := (ixm (by omega)).mp hi
        refine ⟨laneV (σ.2 2 r) a3, setF σP 9 0, va_up ω r (setA (ω r) 0 a (laneV (σ.2 2 r) a3)), setA (setF (setF σ 0 0) 1 0) 4 (40 * r + a) (laneV (σ.2 2 r) a3), ?_, ?_, ⟨⟨rfl, p2⟩, hR.put hr (by omega) _, h3, h4, h5, h6, h7⟩⟩
        · rw [C1, if_neg hn1, show FW_holds (ω r) (nI a) 1 = _ from p_holds (ω r) (a := a) (b := 1) (m := m) (by omega) (by omega) (by omega) (e4.trans em), if_pos (by omega)]
          rw [Option.bind_some, if_neg (by decide), p_put (ω r) (by omega), e1]
          rfl
        · rw [M1, if_pos e2, em, show FM_in (Int32.toInt64 (nI a)) 0 (Int32.toInt64 (nI m - 1)) = _ from p_in (nI a) 0 (nI m - 1), if_pos hi]
          show FM_set_99 _ _ _ _ _ = _
          rw [p_set99 _ hr (by omega)]
      · refine ⟨-1000010 - 2, setF σP 9 2, ω, setF (setF (setF σ 0 0) 1 0) 1 2, ?_, ?_, ⟨⟨rfl, p2⟩, hR, h3, h4, h5, h6, h7⟩⟩
        · rw [C1, if_neg hn1]
          have e9 : FW_holds (ω r) a2 1 = some 0 := by
            by_cases hneg : a2 < 0
            · exact p_holds_neg _ _ hneg
            · obtain ⟨a, ha, rfl⟩ := nI_of hneg
              rw [show FW_holds (ω r) (nI a) 1 = _ from p_holds (ω r) (a := a) (b := 1) (m := m) (by omega) (by omega) (by omega) (e4.trans em), if_neg (fun z => hi ((ixm (by omega)).mpr ⟨a, by omega, rfl⟩))]
          rw [e9]
          rfl
        · rw [M1, if_pos e2, em, show FM_in (Int32.toInt64 a2) 0 (Int32.toInt64 (nI m - 1)) = _ from p_in a2 0 (nI m - 1), if_neg hi]
          rfl
  · refine ⟨-1000001, σP, ω, setF σ 0 0, ?_, ?_, ⟨⟨p1, p2⟩, hR, h3, h4, h5, h6, h7⟩⟩
    · unfold FP_set
      rw [p_noRow, if_neg hc]
      rfl
    · unfold FM_set
      show Option.bind (FM_isRow a1) _ = _
      rw [p_isRow, if_neg hc]
      rfl
