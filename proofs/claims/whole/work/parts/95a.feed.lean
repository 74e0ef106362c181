/-! PURE: feed (bp_b and fb_byte_rng began as rows of kit/laws) -/
theorem bp_b (x : Int32) : x.toInt8.toInt32 &&& 255 = x &&& 255 := by
  apply Int32.toBitVec_inj.mp
  rw [Int32.toBitVec_and, Int32.toBitVec_and, Int8.toBitVec_toInt32, Int32.toBitVec_toInt8]
  apply BitVec.eq_of_getLsbD_eq
  intro i hi
  rw [BitVec.getLsbD_and, BitVec.getLsbD_and]
  have hm : ∀ i < 32, 8 ≤ i → (255 : Int32).toBitVec.getLsbD i = false := by decide
  rcases Nat.lt_or_ge i 8 with z | z
  · rw [BitVec.getLsbD_signExtend, BitVec.getLsbD_signExtend, if_pos z, if_pos hi]
    simp only [z, hi, decide_true, Bool.true_and]
  · rw [hm i hi z]; simp
theorem fb_byte_rng (x : Int32) : -128 ≤ x.toInt8.toInt32.toInt ∧ x.toInt8.toInt32.toInt < 128 := by
  rw [Int8.toInt_toInt32]
  have h1 := Int8.le_toInt x.toInt8
  have h2 := Int8.toInt_lt x.toInt8
  omega
theorem fd_byte (w : Int64) {i : Nat} (hi : i < 8) : Int64.toInt32 ((w >>> (Int32.toInt64 (8 * nI i) &&& 63)) &&& 255) = ((Int32.toInt8 (Int64.toInt32 (Int64.toUInt64 w >>> ((Int32.toInt64 (8 * nI i)).toUInt64 &&& Int64.toUInt64 63)).toInt64)).toInt32) &&& 255 := by
  have c1 : ∀ i, i < 8 → ((Int32.toInt64 (8 * nI i) &&& 63).toBitVec.smod 64).toNat = 8 * i := by decide +kernel
  have c2 : ∀ i, i < 8 → ((Int32.toInt64 (8 * nI i)).toUInt64 &&& Int64.toUInt64 63).toNat = 8 * i := by decide +kernel
  have e1 : (w >>> (Int32.toInt64 (8 * nI i) &&& 63)).toBitVec = w.toBitVec.sshiftRight (8 * i) := by
    rw [Int64.toBitVec_shiftRight]
    show w.toBitVec.sshiftRight ((Int32.toInt64 (8 * nI i) &&& 63).toBitVec.smod 64).toNat = _
    rw [c1 i hi]
  have e2 : (Int64.toUInt64 w >>> ((Int32.toInt64 (8 * nI i)).toUInt64 &&& Int64.toUInt64 63)).toInt64.toBitVec = w.toBitVec >>> (8 * i) := by
    apply BitVec.eq_of_toNat_eq
    show (w.toUInt64 >>> _).toNat = _
    rw [UInt64.toNat_shiftRight, c2 i hi, Nat.mod_eq_of_lt (by omega), BitVec.toNat_ushiftRight]
    rfl
  rw [bp_b]
  apply Int32.toBitVec_inj.mp
  rw [Int32.toBitVec_and, Int64.toBitVec_toInt32, Int64.toBitVec_toInt32, Int64.toBitVec_and, e1, e2]
  apply BitVec.eq_of_getLsbD_eq
  intro j hj
  rw [BitVec.getLsbD_and, BitVec.getLsbD_signExtend, BitVec.getLsbD_signExtend, if_pos (by omega), if_pos (by omega), BitVec.getLsbD_and, BitVec.getLsbD_sshiftRight, BitVec.getLsbD_ushiftRight]
  have hm : ∀ i < 32, 8 ≤ i → (255 : Int32).toBitVec.getLsbD i = false := by decide
  have hm2 : ∀ i < 32, 8 ≤ i → (255 : Int64).toBitVec.getLsbD i = false := by decide
  have hm3 : ∀ i < 8, (255 : Int32).toBitVec.getLsbD i = true := by decide
  have hm4 : ∀ i < 8, (255 : Int64).toBitVec.getLsbD i = true := by decide
  rcases Nat.lt_or_ge j 8 with z | z
  · rw [hm3 j z, hm4 j z, if_pos (by omega)]
    simp [hj, show ¬ 64 ≤ j by omega]
  · rw [hm j hj z, hm2 j hj z]; simp
def bC (w : Int64) (d : Nat) : Int32 := (Int32.toInt8 (Int64.toInt32 (Int64.toUInt64 w >>> ((Int32.toInt64 (8 * nI d)).toUInt64 &&& Int64.toUInt64 63)).toInt64)).toInt32
def bM (w : Int64) (d : Nat) : Int32 := Int64.toInt32 ((w >>> (Int32.toInt64 (8 * nI d) &&& 63)) &&& 255)
theorem bM_eq (w : Int64) {d : Nat} (hd : d < 8) : bM w d = bC w d &&& 255 := fd_byte w hd
theorem bC_rng (w : Int64) (d : Nat) : -128 ≤ bC w d ∧ bC w d ≤ 127 := by
  have hr := fb_byte_rng (Int64.toInt32 (Int64.toUInt64 w >>> ((Int32.toInt64 (8 * nI d)).toUInt64 &&& Int64.toUInt64 63)).toInt64)
  have e8 : (-128 : Int32).toInt = -128 := by decide
  have e9 : (127 : Int32).toInt = 127 := by decide
  unfold bC
  rw [Int32.le_iff_toInt_le, Int32.le_iff_toInt_le]
  omega
theorem feed_L (σT : MS) (w : Int64) {m d : Nat} (h1 : σT.1 1 = nI m) (hm : m < 500) (hd : d < 8) (n : Nat) : FT_append_5 (n + 1) σT w (nI d) = FT_append_5 n (setF (setA σT 0 m (bC w d)) 1 (nI (m + 1))) w (nI d - 1) := by
  conv => lhs; unfold FT_append_5
  rw [if_neg (nI_pos (by omega)), h1, gd_nI hm (by decide), nI_clamp (by omega)]
  simp only [nm]
  rw [show (setA σT 0 m _).1 1 = nI m from h1, ← nI_succ, ← Int32.sub_eq_add_neg]
  rfl
theorem feed_M (σ : MS) (w : Int64) {m d : Nat} (h1 : σ.1 11 = nI m) (hm : m < 500) (hd : d < 8) (n : Nat) : FM_feed_40 (n + 1) σ w (nI d) = FM_feed_40 n (setF (setA σ 10 m (bM w d)) 11 (nI (m + 1))) w (nI d - 1) := by
  conv => lhs; unfold FM_feed_40
  rw [if_neg (nI_pos (by omega)), h1, gd_nI hm (by decide), nI_clamp (by omega)]
  simp only [nm]
  rw [show (setA σ 10 m _).1 11 = nI m from h1, ← nI_succ, ← Int32.sub_eq_add_neg]
  rfl
theorem RTape.more {σT : MS} {tape : Nat → Int32} {m : Nat} {B V : Int32} (h : RTape σT (nI m) tape) (hm : m < 500) (hV : V = B &&& 255) (hB : -128 ≤ B ∧ B ≤ 127) : RTape (setF (setA σT 0 m B) 1 (nI (m + 1))) (nI (m + 1)) (upd tape m V) := by
  obtain ⟨h1, h2, h3, h4⟩ := h
  refine ⟨rfl, nI_pos' (by omega), nI_le (a := m + 1) (b := 500) (by omega) (by omega), fun j hj hl => ?_⟩
  have hl := (nI_ltI (by omega) (by omega)).mp hl
  show upd tape m V j = upd (σT.2 0) m B j &&& 255 ∧ -128 ≤ upd (σT.2 0) m B j ∧ upd (σT.2 0) m B j ≤ 127
  by_cases hjm : j = m
  · subst hjm
    rw [pk_us, pk_us]
    exact ⟨hV, hB⟩
  · rw [pk_un hjm, pk_un hjm]
    exact h4 j hj (nI_lt (by omega) (by omega))
theorem feed_loop (w : Int64) (n : Nat) : ∀ (d : Nat) (σT σ : MS) (m : Nat), d ≤ 8 → m + d ≤ 500 → σ.1 11 = nI m → RTape σT (nI m) (σ.2 10) → ∃ (σT' σ' : MS), FT_append_5 (n + d + 1) σT w (nI d - 1) = some σT' ∧ FM_feed_40 (n + d + 1) σ w (nI d - 1) = some (σT'.1 1, σ') ∧ RTape σT' (σ'.1 11) (σ'.2 10) ∧ (∀ i, i ≠ 11 → σ'.1 i = σ.1 i) ∧ (∀ i, i ≠ 10 → σ'.2 i = σ.2 i) := by
  intro d
  induction d with
  | zero =>
    intro σT σ m hd hm e h
    have z : (nI 0 - 1 : Int32) < 0 := by decide
    refine ⟨σT, σ, ?_, ?_, by rw [e]; exact h, fun _ _ => rfl, fun _ _ => rfl⟩
    · unfold FT_append_5
      rw [if_pos z]
    · unfold FM_feed_40
      rw [if_pos z, h.1, e]
  | succ d ih =>
    intro σT σ m hd hm e h
    rw [nI_pred, feed_L σT w h.1 (by omega) (by omega), feed_M σ w e (by omega) (by omega)]
    obtain ⟨σT', σ', i1, i2, i3, i4, i5⟩ := ih (setF (setA σT 0 m (bC w d)) 1 (nI (m + 1))) (setF (setA σ 10 m (bM w d)) 11 (nI (m + 1))) (m + 1) (by omega) (by omega) rfl (h.more (by omega) (bM_eq w (by omega)) (bC_rng w d))
    exact ⟨σT', σ', i1, i2, i3, fun i hi => (i4 i hi).trans (va_up_ne _ _ hi), fun i hi => (i5 i hi).trans (va_up_ne _ _ hi)⟩
theorem Rel.tp {k : Nat} {σP σL σG σR σT σT' σC σA σK : MS} {ω ι : Nat → MS} {σ σ' : MS} (h : Rel k σP σL σG σR σT σC σA σK ω ι σ) (hF : ∀ i, i ≠ 0 → i ≠ 11 → σ'.1 i = σ.1 i) (hA : ∀ i, i ≠ 10 → σ'.2 i = σ.2 i) (hT : RTape σT' (σ'.1 11) (σ'.2 10)) : Rel (k + 1) σP σL σG σR σT' σC σA σK ω ι σ' := by
  obtain ⟨⟨h1, h2⟩, h3, -, ⟨h4, h5⟩, h6, h7, h8⟩ := Rel.mono _ _ _ _ _ _ _ _ _ _ _ _ h
  refine ⟨⟨?_, ?_⟩, ?_, hT, ⟨?_, ?_⟩, ?_, ?_, ?_⟩
  · rw [hF 1 (by decide) (by decide)]; exact h1
  · rw [hF 12 (by decide) (by decide)]; exact h2
  · rw [hA 2 (by decide), hA 3 (by decide), hA 4 (by decide)]; exact h3
  · rw [hF 7 (by decide) (by decide)]; exact h4
  · rw [hA 5 (by decide)]; exact h5
  · rw [hF 9 (by decide) (by decide), hA 8 (by decide)]; exact h6
  · rw [hA 22 (by decide), hA 23 (by decide)]; exact h7
  · rw [hF 25 (by decide) (by decide), hA 24 (by decide)]; exact h8
theorem sim_feed : Sim_feed Rel := by
  intro k σP σL σG σR σT σC σA σK ω ι σ a1 a2 hk h
  have hm := Rel.mono _ _ _ _ _ _ _ _ _ _ _ _ h
  have hT := h.2.2.1
  obtain ⟨m, hm5, em⟩ := nI_of2 (x := σ.1 11) (M := 500) (n := 500) (by decide) (Int32.not_lt.mpr hT.2.1) hT.2.2.1
  have em' : σT.1 1 = nI m := hT.1.trans em
  by_cases hc : 1 ≤ a2 ∧ a2 ≤ 8
  · obtain ⟨d, hd8, rfl⟩ := nI_of2 (x := a2) (M := 8) (n := 8) (by decide) (fun z => by
      have := hc.1
      rw [Int32.le_iff_toInt_le] at this
      rw [Int32.lt_iff_toInt_lt] at z
      have e1 : (1 : Int32).toInt = 1 := by decide
      have e2 : (0 : Int32).toInt = 0 := by decide
      omega) hc.2
    by_cases hf : m + d ≤ 500
    · obtain ⟨σT', σ', i1, i2, i3, i4, i5⟩ := feed_loop a1 (4999 - d) d σT (setF σ 0 0) m hd8 hf em (by have := hT; rw [em] at this; exact this)
      rw [show 4999 - d + d + 1 = fuelN from by show _ = 5000; omega] at i1 i2
      refine ⟨σT'.1 1, σT', σ', ?_, ?_, h.tp (fun i h0 h11 => (i4 i h11).trans (va_up_ne _ _ h0)) i5 i3⟩
      · unfold FP_feed FT_append
        rw [p_outside, if_pos hc, Option.bind_some, if_pos rfl, em', nI_add, if_pos (show nI (m + d) ≤ 500 from nI_le (a := m + d) (b := 500) hf (by decide))]
        show Option.bind (FT_append_5 fuelN σT a1 (nI d - 1)) _ = _
        rw [i1]
        rfl
      · unfold FM_feed
        show Option.bind (FM_in (Int32.toInt64 (nI d)) 1 8) _ = _
        rw [show FM_in (Int32.toInt64 (nI d)) 1 8 = _ from p_in (nI d) 1 8, if_pos hc, Option.bind_some, if_neg one_ne_zero32]
        show (if σ.1 11 + nI d ≤ 500 then FM_feed_40 fuelN (setF σ 0 0) a1 (nI d - 1) else _) = _
        rw [em, nI_add, if_pos (show nI (m + d) ≤ 500 from nI_le (a := m + d) (b := 500) hf (by decide)), i2]
    · refine ⟨-1000003, σT, setF σ 0 0, ?_, ?_, hm⟩
      · unfold FP_feed
        rw [p_outside, if_pos hc, Option.bind_some, if_pos rfl, em', nI_add, if_neg (show ¬ nI (m + d) ≤ 500 from nI_ge (a := 500) (b := m + d) (by omega) (by omega))]
      · unfold FM_feed
        show Option.bind (FM_in (Int32.toInt64 (nI d)) 1 8) _ = _
        rw [show FM_in (Int32.toInt64 (nI d)) 1 8 = _ from p_in (nI d) 1 8, if_pos hc, Option.bind_some, if_neg one_ne_zero32]
        show (if σ.1 11 + nI d ≤ 500 then FM_feed_40 fuelN (setF σ 0 0) a1 (nI d - 1) else _) = _
        rw [em, nI_add, if_neg (show ¬ nI (m + d) ≤ 500 from nI_ge (a := 500) (b := m + d) (by omega) (by omega))]
  · refine ⟨-1000001, σT, setF σ 0 0, ?_, ?_, hm⟩
    · unfold FP_feed
      rw [p_outside, if_neg hc]
      rfl
    · unfold FM_feed
      show Option.bind (FM_in (Int32.toInt64 a2) 1 8) _ = _
      rw [show FM_in (Int32.toInt64 a2) 1 8 = _ from p_in a2 1 8, if_neg hc]
      rfl
