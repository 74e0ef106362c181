/-! PURE: realm: both readers at one token (JG), or both at one fault (JB) -/
def FrP (a b : MS) : Prop := (∀ i, i ≠ 14 → i ≠ 15 → i ≠ 16 → i ≠ 17 → i ≠ 18 → i ≠ 19 → b.1 i = a.1 i) ∧ (∀ i, i ≠ 6 → b.2 i = a.2 i)
theorem FrP.rf (a : MS) : FrP a a := ⟨fun _ _ _ _ _ _ _ => rfl, fun _ _ => rfl⟩
theorem FrP.tr {a b c : MS} (h : FrP a b) (h' : FrP b c) : FrP a c := ⟨fun i h0 h1 h2 h3 h4 h5 => (h'.1 i h0 h1 h2 h3 h4 h5).trans (h.1 i h0 h1 h2 h3 h4 h5), fun i hi => (h'.2 i hi).trans (h.2 i hi)⟩
theorem FrM.p {a b : MS} (h : FrM a b) : FrP a b := ⟨fun i h0 h1 h2 h3 _ _ => h.1 i h0 h1 h2 h3, fun i _ => by rw [h.2]⟩
theorem FrP.A6 (σ : MS) (i : Nat) (x : Int32) : FrP σ (setA σ 6 i x) := ⟨fun _ _ _ _ _ _ _ => rfl, fun _ hi => va_up_ne _ _ hi⟩
def JG (m : Nat) (u : Nat → Nat) (σ0 σT σ : MS) : Prop := TPu m u σT σ ∧ (∃ s e y, TK m u σT σ s e y) ∧ σ.1 18 = 0 ∧ FrP σ0 σ
def JB (m : Nat) (u : Nat → Nat) (σ0 σR σ : MS) : Prop := ∃ f : Nat, 1 ≤ f ∧ f ≤ 3 ∧ σ.1 18 = nI f ∧ σR.1 2 = nI f ∧ σ.1 19 = σR.1 3 ∧ (∃ σT s e y, TPu m u σT σ ∧ TK m u σT σ s e y) ∧ FrP σ0 σ
theorem JB.A6 {m : Nat} {u : Nat → Nat} {σ0 σR σ : MS} (h : JB m u σ0 σR σ) (i : Nat) (x : Int32) : JB m u σ0 σR (setA σ 6 i x) := by
  obtain ⟨f, h1, h3, e, e2, e3, ⟨σT, s, e', y, hT, hK⟩, hF⟩ := h
  exact ⟨f, h1, h3, e, e2, e3, ⟨σT, s, e', y, hT, hK⟩, hF.tr (FrP.A6 σ i x)⟩
section JJ
variable {m : Nat} {u : Nat → Nat} {σ0 σT σR σ : MS}
theorem JG.A6 (h : JG m u σ0 σT σ) (i : Nat) (x : Int32) : JG m u σ0 σT (setA σ 6 i x) := ⟨h.1, h.2.1, h.2.2.1, h.2.2.2.tr (FrP.A6 σ i x)⟩
theorem bf_pos {f : Nat} (h1 : 1 ≤ f) (h3 : f ≤ 3) : ¬ nI f = 0 ∧ ¬ nI f ≤ 0 := ⟨nI_ne0 (by omega) (by omega), nI_nle (by omega) (by omega)⟩
theorem JB.bad (h : JB m u σ0 σR σ) (x : Int32) : FM_bad σ x = some σ := by
  obtain ⟨f, h1, h3, e, -⟩ := h
  rw [FM_bad, e, if_neg (bf_pos h1 h3).1]
theorem JB.must (h : JB m u σ0 σR σ) (x : Int32) : FM_must σ x = some σ := by
  have hb := h.bad
  obtain ⟨f, h1, h3, e, -⟩ := h
  have h9 : FM_must_9 σ = some σ := by rw [FM_must_9, e, if_neg (bf_pos h1 h3).1]
  rw [FM_must, hb, Option.bind_some, h9, ite_self]
theorem JB.num (h : JB m u σ0 σR σ) (a b : Int32) : FM_number σ a b = some (0, σ) := by
  obtain ⟨f, h1, h3, e, -⟩ := h
  rw [FM_number, e, if_neg (bf_pos h1 h3).2]
theorem JB.end_ (h : JB m u σ0 σR σ) : FM_mustEnd σ = some σ := by
  obtain ⟨f, h1, h3, e, -⟩ := h
  rw [FM_mustEnd, e, if_neg (bf_pos h1 h3).1]
theorem JB.name (h : JB m u σ0 σR σ) : FM_name σ = some 0 := by
  obtain ⟨f, h1, h3, e, -, -, ⟨σT, s, e', y, hT, hK⟩, -⟩ := h
  obtain ⟨v, hv, -⟩ := p_name hT hK
  rw [hv, FM_name_56, e, if_neg (bf_pos h1 h3).1]
theorem JG.name (h : JG m u σ0 σT σ) : ∃ v : Int64, FM_name σ = some v ∧ ∀ i, i < 9 → FT_isWord σT i = some (if v = zc i then 1 else 0) := by
  obtain ⟨hT, ⟨s, e, y, hK⟩, h0, -⟩ := h
  obtain ⟨v, hv, hw⟩ := p_name hT hK
  exact ⟨v, by rw [hv, FM_name_56, h0, if_pos rfl], hw⟩
theorem JG.fail (h : JG m u σ0 σT σ) (σR : MS) {f : Nat} (h1 : 1 ≤ f) (h3 : f ≤ 3) : ∃ σR' σ', FM_bad σ (nI f) = some σ' ∧ FR_faulty σR σT (nI f) = some (0, σR') ∧ JB m u σ0 σR' σ' ∧ σ'.1 15 = σ.1 15 ∧ σ'.2 = σ.2 := by
  obtain ⟨hT, ⟨s, e, y, hK⟩, h0, hF⟩ := h
  have hK' := hK
  obtain ⟨k1, k2, k3, ⟨a1, a2, a3⟩, ⟨b1, b2, b3, b4⟩, k4, k5⟩ := hK'
  refine ⟨setF (setF σR 2 (nI f)) 3 (nI s), setF (setF σ 18 (nI f)) 19 (nI s), ?_, ?_, ⟨f, h1, h3, rfl, rfl, rfl, ⟨σT, s, e, y, hT, hK⟩, hF.tr ⟨fun i _ _ _ _ q1 q2 => (va_up_ne _ _ q2).trans (va_up_ne _ _ q1), fun _ _ => rfl⟩⟩, rfl, rfl⟩
  · rw [FM_bad, h0, if_pos rfl]
    simp only [nm]
    rw [show (setF σ 18 (nI f)).1 16 = nI s from b2]
  · rw [FR_faulty]
    simp only [nm]
    rw [a1]
theorem JG.next (h : JG m u σ0 σT σ) : ∃ σT' σ', FT_step σT = some σT' ∧ FM_next σ = some σ' ∧ FM_must σ 1 = some σ' ∧ JG m u σ0 σT' σ' ∧ σ'.2 = σ.2 := by
  obtain ⟨hT, ⟨s, e, y, hK⟩, h0, hF⟩ := h
  obtain ⟨k1, k2, k3, ⟨a1, a2, a3⟩, ⟨b1, b2, b3, b4⟩, k4, k5⟩ := hK
  obtain ⟨σT', σ', s', e', y', i1, i2, i3, i4, i5⟩ := tok_step hT k2 a2 b1
  refine ⟨σT', σ', i1, i2, ?_, ⟨hT.fr i4 i5, ⟨s', e', y', i3⟩, (i5.1 18 (by decide) (by decide) (by decide) (by decide)).trans h0, hF.tr i5.p⟩, i5.2⟩
  rw [FM_must, if_neg one_ne_zero32, FM_must_9, h0, if_pos rfl, i2]
  rfl
theorem JG.must0 (h : JG m u σ0 σT σ) (σR : MS) : ∃ σR' σ', FM_must σ 0 = some σ' ∧ FR_faulty σR σT 1 = some (0, σR') ∧ JB m u σ0 σR' σ' ∧ σ'.2 = σ.2 := by
  obtain ⟨σR', σ', i1, i2, i3, -, i5⟩ := h.fail σR (f := 1) (by decide) (by decide)
  refine ⟨σR', σ', ?_, i2, i3, i5⟩
  rw [FM_must, if_pos rfl, show FM_bad σ 1 = _ from i1, Option.bind_some]
  obtain ⟨f, h1, h3, e, -⟩ := i3
  rw [FM_must_9, e, if_neg (bf_pos h1 h3).1]
theorem JG.sort (h : JG m u σ0 σT σ) : (σT.1 2 = 2 ↔ σ.1 15 = 3) ∧ (σT.1 2 = 3 ↔ σ.1 15 = 4) ∧ (σT.1 2 = 0 ↔ σ.1 15 = 1) ∧ (σT.1 2 = 2 → ∃ v, v ≤ 999 ∧ σT.1 4 = nI v ∧ FM_figures σ = some (nI v)) := by
  obtain ⟨hT, ⟨s, e, y, hK⟩, h0, hF⟩ := h
  have hK' := hK
  obtain ⟨k1, k2, k3, ⟨a1, a2, a3⟩, ⟨b1, b2, b3, b4⟩, k4, k5⟩ := hK'
  rw [a3, b4]
  have hy : y = 0 ∨ y = 1 ∨ y = 2 ∨ y = 3 ∨ y = 4 := by omega
  refine ⟨?_, ?_, ?_, fun q => ?_⟩
  · rcases hy with rfl | rfl | rfl | rfl | rfl <;> decide
  · rcases hy with rfl | rfl | rfl | rfl | rfl <;> decide
  · rcases hy with rfl | rfl | rfl | rfl | rfl <;> decide
  · have : y = 2 := (nI_eq (a := y) (b := 2) (by omega) (by decide)).mp q
    subst this
    exact p_figs hT hK
theorem JG.num (h : JG m u σ0 σT σ) (σR : MS) (a b : Int32) : (∃ v σT' σ', v ≤ 999 ∧ a ≤ nI v ∧ nI v ≤ b ∧ (σT.1 2 = 2 ∧ σT.1 4 = nI v) ∧ FR_takeNumber σR σT a b = some (1, setF σR 1 (nI v), σT') ∧ FM_number σ a b = some (nI v, σ') ∧ JG m u σ0 σT' σ' ∧ σ'.2 = σ.2) ∨ (∃ x σR' σ', FR_takeNumber σR σT a b = some (0, σR', σT) ∧ FM_number σ a b = some (x, σ') ∧ JB m u σ0 σR' σ' ∧ σ'.2 = σ.2) := by
  obtain ⟨s1, -, -, s4⟩ := h.sort
  have h0 := h.2.2.1
  unfold FR_takeNumber FM_number
  rw [h0, if_pos (show (0 : Int32) ≤ 0 by decide)]
  by_cases z : σT.1 2 = 2
  · obtain ⟨v, hv, ev, ef⟩ := s4 z
    have z15 := s1.mp z
    rw [if_pos z, ev, p_outside, Option.bind_some, ef, Option.bind_some, if_pos z15, p_in, Option.bind_some]
    by_cases hr : a ≤ nI v ∧ nI v ≤ b
    · refine Or.inl ?_
      obtain ⟨σT', σ', i1, -, i2, i3, i4⟩ := h.next
      refine ⟨v, σT', σ', hv, hr.1, hr.2, ⟨z, rfl⟩, ?_, ?_, i3, i4⟩
      · rw [if_pos hr, if_pos rfl]
        simp only [nm]
        rw [i1]
        rfl
      · rw [if_pos hr, if_neg one_ne_zero32, FM_number_39, if_pos z15, FM_number_53, i2]
        rfl
    · refine Or.inr ?_
      obtain ⟨σR', σ', i1, i2, i3, i4, i5⟩ := h.fail σR (f := 2) (by decide) (by decide)
      refine ⟨nI v, σR', σ', ?_, ?_, i3, i5⟩
      · rw [if_neg hr, if_neg one_ne_zero32, show FR_faulty σR σT 2 = _ from i2, bd2_s, gd_t (Or.inl rfl)]
      · rw [if_neg hr, if_pos rfl, show FM_bad σ 2 = _ from i1, Option.bind_some, FM_number_39, i4, if_pos z15, FM_number_53, i3.must]
        rfl
  · have z15 : ¬ σ.1 15 = 3 := fun q => z (s1.mpr q)
    refine Or.inr ?_
    obtain ⟨σR', σ', i1, i2, i3, i5⟩ := h.must0 σR
    have hfig : ∃ x, FM_figures σ = some x := by
      obtain ⟨hT, ⟨s, e, y, hK⟩, -, -⟩ := h
      obtain ⟨k1, k2, k3, -, ⟨b1, b2, b3, b4⟩, -, -⟩ := hK
      have hm := hT.1
      refine ⟨0, ?_⟩
      unfold FM_figures
      simp only [nm]
      show FM_figures_7 (4999 + 1) σ 0 _ = _
      rw [FM_figures_7, b3, b2, if_neg z15, ite_self]
    obtain ⟨x, hx⟩ := hfig
    refine ⟨x, σR', σ', ?_, ?_, i3, i5⟩
    · rw [if_neg z, i2, bd2_s, gd_t (Or.inl rfl)]
    · rw [hx, Option.bind_some, if_neg z15, FM_number_39, if_neg z15, FM_number_53, i1]
      rfl
theorem JG.sign (h : JG m u σ0 σT σ) (σR : MS) : (∃ σT' σ', FR_takeSign σR σT = some (1, σR, σT') ∧ FM_mustEnd σ = some σ' ∧ JG m u σ0 σT' σ' ∧ σ'.2 = σ.2) ∨ (∃ σR' σ', FR_takeSign σR σT = some (0, σR', σT) ∧ FM_mustEnd σ = some σ' ∧ JB m u σ0 σR' σ' ∧ σ'.2 = σ.2) := by
  obtain ⟨-, s2, -, -⟩ := h.sort
  have h0 := h.2.2.1
  unfold FR_takeSign FM_mustEnd
  rw [h0, if_pos rfl]
  by_cases z : σT.1 2 = 3
  · refine Or.inl ?_
    obtain ⟨σT', σ', i1, -, i2, i3, i4⟩ := h.next
    refine ⟨σT', σ', ?_, ?_, i3, i4⟩
    · rw [if_pos z, i1]
      rfl
    · rw [if_pos (s2.mp z), FM_mustEnd_21, i2]
      rfl
  · refine Or.inr ?_
    obtain ⟨σR', σ', i1, i2, i3, i5⟩ := h.must0 σR
    refine ⟨σR', σ', ?_, ?_, i3, i5⟩
    · rw [if_neg z, i2, bd2_s, gd_t (Or.inl rfl)]
    · rw [if_neg (fun q => z (s2.mpr q)), FM_mustEnd_21, i1]
      rfl
theorem JG.begins (h : JG m u σ0 σT σ) {a : Nat} (ha : a < 147) {b : Int32} (hb : ¬ σ.2 6 a = b) : ∃ σT' σ', FT_step σT = some σT' ∧ FM_begins σ (nI a) b = some σ' ∧ JG m u σ0 σT' σ' ∧ σ'.2 = σ.2 := by
  obtain ⟨σT', σ', i1, -, i2, i3, i4⟩ := h.next
  refine ⟨σT', σ', i1, ?_, i3, i4⟩
  rw [FM_begins, gd_nI (N := 147) ha (by decide), nI_clamp (by omega), if_neg hb, FM_begins_15, i2]
  rfl
theorem JG.beginsF (h : JG m u σ0 σT σ) (σR : MS) {a : Nat} (ha : a < 147) {b : Int32} (hb : σ.2 6 a = b) : ∃ σR' σ', FR_faulty σR σT 3 = some (0, σR') ∧ FM_begins σ (nI a) b = some σ' ∧ JB m u σ0 σR' σ' ∧ σ'.2 = σ.2 := by
  obtain ⟨σR', σ', i1, i2, i3, i4, i5⟩ := h.fail σR (f := 3) (by decide) (by decide)
  refine ⟨σR', σ', i2, ?_, i3, i5⟩
  rw [FM_begins, gd_nI (N := 147) ha (by decide), nI_clamp (by omega), if_pos hb, show FM_bad σ 3 = _ from i1, Option.bind_some, FM_begins_15, i3.must]
  rfl
/-- after a fault the reference does nothing more -/
theorem JB.e186 (h : JB m u σ0 σR σ) : FM_realm_186 σ = some (-1000100 - σR.1 3, setF σ 12 (σR.1 2)) := by
  obtain ⟨f, h1, h3, e, e2, e3, -⟩ := h
  rw [FM_realm_186, e, if_neg (bf_pos h1 h3).2]
  simp only [nm]
  rw [show (setF σ 12 (nI f)).1 19 = σ.1 19 from rfl, e3, e2]
theorem lc_ne0 : ∀ x ∈ ([1668245870, 114827769177458, 1919902052] : List Int64), ¬ lg_cmp 0 x = 0 := by decide +kernel
theorem JB.e148 (h : JB m u σ0 σR σ) (n : Nat) : FM_realm_148 (n + 1) σ = some (-1000100 - σR.1 3, setF σ 12 (σR.1 2)) := by
  have h186 := h.e186
  rw [FM_realm_148, h.name, Option.bind_some, if_neg (lc_ne0 _ (by decide)), h186]
  obtain ⟨f, h1, h3, e, -⟩ := h
  rw [e, if_neg (bf_pos h1 h3).1]
theorem JB.e130 (h : JB m u σ0 σR σ) (n : Nat) : FM_realm_130 (n + 1) σ = some (-1000100 - σR.1 3, setF σ 12 (σR.1 2)) := by
  rw [FM_realm_130, h.name, Option.bind_some, if_neg (lc_ne0 _ (by decide))]
  exact h.e148 4999
theorem JB.e112 (h : JB m u σ0 σR σ) (n : Nat) : FM_realm_112 (n + 1) σ = some (-1000100 - σR.1 3, setF σ 12 (σR.1 2)) := by
  rw [FM_realm_112, h.name, Option.bind_some, if_neg (lc_ne0 _ (by decide))]
  exact h.e130 4999
end JJ
