/-! PURE: realm: the tape's tokens, both sides -/
def TPu (m : Nat) (u : Nat → Nat) (σT σ : MS) : Prop := m ≤ 500 ∧ σT.1 1 = nI m ∧ σ.1 13 = nI m ∧ ∀ j, j < m → u j < 256 ∧ σ.2 10 j = nI (u j) ∧ (u j < 128 → σT.2 0 j = nI (u j)) ∧ (128 ≤ u j → σT.2 0 j < 0)
def FrT (a b : MS) : Prop := b.1 1 = a.1 1 ∧ b.2 = a.2
def FrM (a b : MS) : Prop := (∀ i, i ≠ 14 → i ≠ 15 → i ≠ 16 → i ≠ 17 → b.1 i = a.1 i) ∧ b.2 = a.2
theorem FrT.rf (a : MS) : FrT a a := ⟨rfl, rfl⟩
theorem FrM.rf (a : MS) : FrM a a := ⟨fun _ _ _ _ _ => rfl, rfl⟩
theorem FrT.tr {a b c : MS} (h : FrT a b) (h' : FrT b c) : FrT a c := ⟨h'.1.trans h.1, h'.2.trans h.2⟩
theorem FrM.tr {a b c : MS} (h : FrM a b) (h' : FrM b c) : FrM a c := ⟨fun i h0 h1 h2 h3 => (h'.1 i h0 h1 h2 h3).trans (h.1 i h0 h1 h2 h3), h'.2.trans h.2⟩
theorem FrT.st (σ : MS) {i : Nat} (x : Int32) (h : 1 ≠ i) : FrT σ (setF σ i x) := ⟨va_up_ne _ _ h, rfl⟩
theorem FrM.st (σ : MS) {i : Nat} (x : Int32) (h : i = 14 ∨ i = 15 ∨ i = 16 ∨ i = 17) : FrM σ (setF σ i x) := ⟨fun j h0 h1 h2 h3 => va_up_ne _ _ (by omega), rfl⟩
theorem TPu.fr {m : Nat} {u : Nat → Nat} {σT σ σT' σ' : MS} (h : TPu m u σT σ) (hT : FrT σT σT') (hM : FrM σ σ') : TPu m u σT' σ' := by
  unfold TPu at h ⊢
  rw [hT.1, hT.2, hM.1 13 (by decide) (by decide) (by decide) (by decide), hM.2]
  exact h
def kd (x : Nat) : Nat := if 97 ≤ x ∧ x ≤ 122 then 1 else if 48 ≤ x ∧ x ≤ 57 then 2 else if x = 32 ∨ x = 10 then 5 else if x = 59 then 3 else 4
theorem kd_1 {x : Nat} (h : kd x = 1) : 97 ≤ x ∧ x ≤ 122 := by
  unfold kd at h
  split at h
  · assumption
  · split at h
    · cases h
    · split at h
      · cases h
      · split at h <;> cases h
theorem kd_2 {x : Nat} (h : kd x = 2) : 48 ≤ x ∧ x ≤ 57 := by
  unfold kd at h
  split at h
  · cases h
  · split at h
    · assumption
    · split at h
      · cases h
      · split at h <;> cases h
theorem kd_b (x : Nat) : 1 ≤ kd x ∧ kd x ≤ 5 := by
  unfold kd
  split
  · decide
  · split
    · decide
    · split
      · decide
      · split <;> decide
theorem kd_5 {x : Nat} : kd x = 5 ↔ (x = 32 ∨ x = 10) := by
  unfold kd
  constructor
  · intro h
    split at h
    · cases h
    · split at h
      · cases h
      · split at h
        · assumption
        · split at h <;> cases h
  · rintro (rfl | rfl) <;> rfl
theorem kd_3 {x : Nat} : kd x = 3 ↔ x = 59 := by
  unfold kd
  constructor
  · intro h
    split at h
    · cases h
    · split at h
      · cases h
      · split at h
        · cases h
        · split at h
          · assumption
          · cases h
  · rintro rfl; rfl
theorem srt_all : ∀ x, x < 128 → (if (nI x : Int32) < 97 then (FT_sortOfByte_21 s0 (nI x)) else (if 122 < nI x then (FT_sortOfByte_21 s0 (nI x)) else (some (1)))) = some (nI (kd x)) := by decide +kernel
theorem p_sort {m : Nat} {u : Nat → Nat} {σT σ : MS} (h : TPu m u σT σ) {j : Nat} (hj : j < m) : FT_sortOfByte σT (nI j) = some (nI (kd (u j))) := by
  obtain ⟨hm, -, -, hb⟩ := h
  obtain ⟨-, -, h1, h2⟩ := hb j hj
  unfold FT_sortOfByte
  rw [gd_nI (N := 500) (by omega) (by decide), nI_clamp (by omega)]
  simp only [nm]
  rcases Nat.lt_or_ge (u j) 128 with z | z
  · rw [h1 z]
    exact srt_all (u j) z
  · have hn := h2 z
    have e1 : σT.2 0 j < 97 := by
      rw [Int32.lt_iff_toInt_lt] at hn ⊢
      have q1 : (97 : Int32).toInt = 97 := by decide
      have q2 : (0 : Int32).toInt = 0 := by decide
      omega
    have e2 : σT.2 0 j < 48 := by
      rw [Int32.lt_iff_toInt_lt] at hn ⊢
      have q1 : (48 : Int32).toInt = 48 := by decide
      have q2 : (0 : Int32).toInt = 0 := by decide
      omega
    have e3 : ¬ σT.2 0 j = 32 := fun e => by rw [e] at hn; exact absurd hn (by decide)
    have e4 : ¬ σT.2 0 j = 10 := fun e => by rw [e] at hn; exact absurd hn (by decide)
    have e5 : ¬ σT.2 0 j = 59 := fun e => by rw [e] at hn; exact absurd hn (by decide)
    have ek : kd (u j) = 4 := by
      unfold kd
      rw [if_neg (by omega), if_neg (by omega), if_neg (by omega), if_neg (by omega)]
    rw [if_pos e1, FT_sortOfByte_21, if_pos e2, FT_sortOfByte_35, if_neg e3, if_neg e4, if_neg e5, ek]
    rfl
theorem p_byte {m : Nat} {u : Nat → Nat} {σT σ : MS} (h : TPu m u σT σ) {j : Nat} (hj : j < m) : FM_byteAt σ (nI j) = some (nI (u j)) := by
  obtain ⟨hm, -, h13, hb⟩ := h
  unfold FM_byteAt
  rw [h13, if_neg (nI_ge hj (by omega)), gd_nI (N := 500) (by omega) (by decide), nI_clamp (by omega), (hb j hj).2.1]
theorem p_byteE {m : Nat} {u : Nat → Nat} {σT σ : MS} (h : TPu m u σT σ) : FM_byteAt σ (nI m) = some (-1000000) := by
  obtain ⟨hm, -, h13, hb⟩ := h
  unfold FM_byteAt
  rw [h13, if_pos (nI_le (Nat.le_refl _) (by omega))]
theorem let_all : ∀ x, x < 256 → FM_isLetter (nI x) = some (if kd x = 1 then 1 else 0) := by decide +kernel
theorem fig_all : ∀ x, x < 256 → FM_isFigure (nI x) = some (if kd x = 2 then 1 else 0) := by decide +kernel
theorem let_end : FM_isLetter (-1000000) = some 0 := by decide +kernel
theorem fig_end : FM_isFigure (-1000000) = some 0 := by decide +kernel
theorem gap_loop {m : Nat} {u : Nat → Nat} (n : Nat) : ∀ (d i : Nat) (σT σ : MS), i + d = m → TPu m u σT σ → σT.1 3 = nI i → σ.1 14 = nI i → ∃ (s n' : Nat) (σT' σ' : MS), i ≤ s ∧ s ≤ m ∧ (s < m → kd (u s) ≠ 5) ∧ FT_step_8 (n + d + 1) σT = FT_step_44 σT' ∧ FM_next_0 (n + d + 1) σ = FM_next_0 (n' + 1) σ' ∧ σT'.1 3 = nI s ∧ σ'.1 14 = nI s ∧ FrT σT σT' ∧ FrM σ σ' := by
  intro d
  induction d with
  | zero =>
    intro i σT σ hi h e3 e14
    have hi : i = m := hi
    refine ⟨i, n, σT, σ, Nat.le_refl _, by omega, fun z => absurd z (by omega), ?_, rfl, e3, e14, FrT.rf _, FrM.rf _⟩
    rw [FT_step_8, h.2.1, e3, if_pos (nI_le (by omega) (by have := h.1; omega))]
  | succ d ih =>
    intro i σT σ hi h e3 e14
    have hm := h.1
    have him : i < m := by omega
    have hu := (h.2.2.2 i him).1
    by_cases hk : kd (u i) = 5
    · obtain ⟨s, n', σT', σ', a1, a2, a3, a4, a5, a6, a7, a8, a9⟩ := ih (i + 1) (setF σT 3 (nI (i + 1))) (setF σ 14 (nI (i + 1))) (by omega) (h.fr (FrT.st _ _ (by decide)) (FrM.st _ _ (by decide))) rfl rfl
      refine ⟨s, n', σT', σ', by omega, a2, a3, ?_, ?_, a6, a7, (FrT.st _ _ (by decide)).tr a8, (FrM.st _ _ (by decide)).tr a9⟩
      · show FT_step_8 ((n + d + 1) + 1) σT = _
        rw [FT_step_8, h.2.1, e3, if_neg (nI_ge him (by omega)), p_sort h him, Option.bind_some, hk, if_pos (show nI 5 = 5 from rfl)]
        simp only [nm]
        rw [nI_1]
        exact a4
      · show FM_next_0 ((n + d + 1) + 1) σ = _
        rw [FM_next_0, e14, p_byte h him, Option.bind_some]
        rcases kd_5.mp hk with z | z
        · rw [z, if_pos (show nI 32 = 32 from rfl), FM_next_26]
          simp only [nm]
          rw [e14, nI_1]
          exact a5
        · rw [z, if_neg (show ¬ nI 10 = 32 by decide), Option.bind_some, if_pos (show nI 10 = 10 from rfl), FM_next_26]
          simp only [nm]
          rw [e14, nI_1]
          exact a5
    · refine ⟨i, n + (d + 1), σT, σ, Nat.le_refl _, by omega, fun _ => hk, ?_, rfl, e3, e14, FrT.rf _, FrM.rf _⟩
      have hb := kd_b (u i)
      rw [FT_step_8, h.2.1, e3, if_neg (nI_ge him (by omega)), p_sort h him, Option.bind_some, if_neg (show ¬ nI (kd (u i)) = 5 from fun e => hk ((nI_eq (a := kd (u i)) (b := 5) (by omega) (by decide)).mp e))]
theorem run_L {m : Nat} {u : Nat → Nat} {y : Nat} (n : Nat) : ∀ (d i : Nat) (σT σ : MS), i + d = m → TPu m u σT σ → σT.1 5 = nI i → σT.1 2 = nI y → y < 5 → ∃ (e : Nat) (σT' : MS), i ≤ e ∧ e ≤ m ∧ (∀ j, i ≤ j → j < e → kd (u j) = y) ∧ (e < m → kd (u e) ≠ y) ∧ FT_step_95 (n + d + 1) σT = FT_step_151 σT' ∧ σT'.1 5 = nI e ∧ σT'.1 2 = nI y ∧ σT'.1 3 = σT.1 3 ∧ FrT σT σT' := by
  intro d
  induction d with
  | zero =>
    intro i σT σ hi h e5 e2 hy
    have hi : i = m := hi
    refine ⟨i, σT, Nat.le_refl _, by omega, fun j h1 h2 => absurd h2 (by omega), fun z => absurd z (by omega), ?_, e5, e2, rfl, FrT.rf _⟩
    rw [FT_step_95, h.2.1, e5, if_pos (nI_le (by omega) (by have := h.1; omega))]
  | succ d ih =>
    intro i σT σ hi h e5 e2 hy
    have hm := h.1
    have him : i < m := by omega
    have hb := kd_b (u i)
    by_cases hk : kd (u i) = y
    · obtain ⟨e, σT', a1, a2, a3, a4, a5, a6, a7, a8, a9⟩ := ih (i + 1) (setF σT 5 (nI (i + 1))) σ (by omega) (h.fr (FrT.st _ _ (by decide)) (FrM.rf _)) rfl e2 hy
      refine ⟨e, σT', by omega, a2, fun j h1 h2 => ?_, a4, ?_, a6, a7, a8, (FrT.st _ _ (by decide)).tr a9⟩
      · rcases Nat.eq_or_lt_of_le h1 with z | z
        · rw [← z]; exact hk
        · exact a3 j z h2
      · show FT_step_95 ((n + d + 1) + 1) σT = _
        rw [FT_step_95, h.2.1, e5, if_neg (nI_ge him (by omega)), p_sort h him, Option.bind_some, hk, e2, if_pos rfl]
        simp only [nm]
        rw [nI_1]
        exact a5
    · refine ⟨i, σT, Nat.le_refl _, by omega, fun j h1 h2 => absurd h2 (by omega), fun _ => hk, ?_, e5, e2, rfl, FrT.rf _⟩
      rw [FT_step_95, h.2.1, e5, if_neg (nI_ge him (by omega)), p_sort h him, Option.bind_some, e2, if_neg (fun e => hk ((nI_eq (by omega) (by omega)).mp e))]
theorem run_77 {m : Nat} {u : Nat → Nat} {e : Nat} (n : Nat) : ∀ (d i : Nat) (σT σ : MS), i + d = e → e ≤ m → TPu m u σT σ → (∀ j, i ≤ j → j < e → kd (u j) = 1) → (e < m → kd (u e) ≠ 1) → σ.1 14 = nI i → ∃ σ', FM_next_77 (n + d + 1) σ = some σ' ∧ σ'.1 14 = nI e ∧ σ'.1 15 = 2 ∧ σ'.1 17 = nI e ∧ σ'.1 16 = σ.1 16 ∧ FrM σ σ' := by
  intro d
  induction d with
  | zero =>
    intro i σT σ hi hem h hk hk2 e14
    have hi : i = e := hi
    subst hi
    refine ⟨setF (setF σ 15 2) 17 (nI i), ?_, e14, rfl, rfl, rfl, (FrM.st _ _ (by decide)).tr (FrM.st _ _ (by decide))⟩
    rw [FM_next_77, e14]
    rcases Nat.eq_or_lt_of_le hem with z | z
    · rw [z, p_byteE h, Option.bind_some, let_end, Option.bind_some, if_pos rfl]
      simp only [nm, FM_next_196]
      rw [show (setF σ 15 2).1 14 = σ.1 14 from rfl, e14, z]
    · rw [p_byte h z, Option.bind_some, let_all _ (h.2.2.2 i z).1, if_neg (hk2 z), Option.bind_some, if_pos rfl]
      simp only [nm, FM_next_196]
      rw [show (setF σ 15 2).1 14 = σ.1 14 from rfl, e14]
  | succ d ih =>
    intro i σT σ hi hem h hk hk2 e14
    have him : i < m := by omega
    obtain ⟨σ', a1, a2, a3, a4, a5, a6⟩ := ih (i + 1) σT (setF σ 14 (nI (i + 1))) (by omega) hem (h.fr (FrT.rf _) (FrM.st _ _ (by decide))) (fun j h1 h2 => hk j (by omega) h2) hk2 rfl
    refine ⟨σ', ?_, a2, a3, a4, a5, (FrM.st _ _ (by decide)).tr a6⟩
    show FM_next_77 ((n + d + 1) + 1) σ = _
    rw [FM_next_77, e14, p_byte h him, Option.bind_some, let_all _ (h.2.2.2 i him).1, if_pos (hk i (Nat.le_refl _) (by omega)), Option.bind_some, if_neg one_ne_zero32]
    simp only [nm]
    rw [nI_1]
    exact a1
theorem run_119 {m : Nat} {u : Nat → Nat} {e s : Nat} (hs : s ≤ e) (n : Nat) : ∀ (d i : Nat) (σT σ : MS), i + d = e → e ≤ m → TPu m u σT σ → (∀ j, i ≤ j → j < e → kd (u j) = 2) → (e < m → kd (u e) ≠ 2) → σ.1 14 = nI i → σ.1 16 = nI s → ∃ σ', FM_next_119 (n + d + 1) σ = some σ' ∧ σ'.1 14 = nI e ∧ σ'.1 15 = (if e ≤ s + 3 then 3 else 0) ∧ σ'.1 17 = nI e ∧ σ'.1 16 = nI s ∧ FrM σ σ' := by
  intro d
  induction d with
  | zero =>
    intro i σT σ hi hem h hk hk2 e14 e16
    have hm := h.1
    have hi : i = e := hi
    subst hi
    have hcl : ∀ x : Int32, FM_next_165 σ x = some (setF (setF σ 15 x) 17 (nI i)) := fun x => by
      unfold FM_next_165 FM_next_196
      simp only [nm]
      rw [show (setF σ 15 x).1 14 = σ.1 14 from rfl, e14]
    have hif : (if ((σ.1 14) - (σ.1 16)) ≤ 3 then (FM_next_165 σ 3) else (FM_next_165 σ 0)) = some (setF (setF σ 15 (if i ≤ s + 3 then 3 else 0)) 17 (nI i)) := by
      rw [e14, e16, pk_sub hs]
      by_cases z : i ≤ s + 3
      · rw [if_pos z, if_pos (show nI (i - s) ≤ 3 from nI_le (b := 3) (by omega) (by decide)), hcl]
      · rw [if_neg z, if_neg (show ¬ nI (i - s) ≤ 3 from nI_ge (a := 3) (by omega) (by omega)), hcl]
    refine ⟨setF (setF σ 15 (if i ≤ s + 3 then 3 else 0)) 17 (nI i), ?_, e14, rfl, rfl, e16, (FrM.st _ _ (by decide)).tr (FrM.st _ _ (by decide))⟩
    rw [FM_next_119]
    rcases Nat.eq_or_lt_of_le hem with z | z
    · rw [show FM_byteAt σ (σ.1 14) = some (-1000000) from by rw [e14, z]; exact p_byteE h, Option.bind_some, fig_end, Option.bind_some, if_pos rfl]
      exact hif
    · rw [show FM_byteAt σ (σ.1 14) = some (nI (u i)) from by rw [e14]; exact p_byte h z, Option.bind_some, fig_all _ (h.2.2.2 i z).1, if_neg (hk2 z), Option.bind_some, if_pos rfl]
      exact hif
  | succ d ih =>
    intro i σT σ hi hem h hk hk2 e14 e16
    have him : i < m := by omega
    obtain ⟨σ', a1, a2, a3, a4, a5, a6⟩ := ih (i + 1) σT (setF σ 14 (nI (i + 1))) (by omega) hem (h.fr (FrT.rf _) (FrM.st _ _ (by decide))) (fun j h1 h2 => hk j (by omega) h2) hk2 rfl e16
    refine ⟨σ', ?_, a2, a3, a4, a5, (FrM.st _ _ (by decide)).tr a6⟩
    show FM_next_119 ((n + d + 1) + 1) σ = _
    rw [FM_next_119, show FM_byteAt σ (σ.1 14) = some (nI (u i)) from by rw [e14]; exact p_byte h him, Option.bind_some, fig_all _ (h.2.2.2 i him).1, if_pos (hk i (Nat.le_refl _) (by omega)), Option.bind_some, if_neg one_ne_zero32]
    simp only [nm]
    rw [e14, nI_1]
    exact a1
def dg (u : Nat → Nat) : Nat → Nat → Nat → Nat
  | 0, _, v => v
  | d + 1, k, v => dg u d (k + 1) (10 * v + (u k - 48))
theorem wf_loop {u : Nat → Nat} {e : Nat} (he : e ≤ 500) (n : Nat) : ∀ (d k v : Nat) (σT : MS), k + d = e → σT.1 5 = nI e → σT.1 4 = nI v → (∀ j, k ≤ j → j < e → (48 ≤ u j ∧ u j ≤ 57) ∧ σT.2 0 j = nI (u j)) → FT_weighFigures_29 (n + d + 1) σT (nI k) = some (setF σT 4 (nI (dg u d k v))) := by
  intro d
  induction d with
  | zero =>
    intro k v σT hk e5 e4 hj
    rw [FT_weighFigures_29, e5, if_pos (nI_le (by omega) (by omega))]
    show some σT = some (setF σT 4 (nI v))
    rw [← e4]
    refine congrArg some (Prod.ext (funext fun i => ?_) rfl)
    show σT.1 i = va_up σT.1 4 (σT.1 4) i
    by_cases z : i = 4
    · rw [z, va_up_self]
    · rw [va_up_ne _ _ z]
  | succ d ih =>
    intro k v σT hk e5 e4 hj
    obtain ⟨⟨h1, h2⟩, h3⟩ := hj k (Nat.le_refl _) (by omega)
    show FT_weighFigures_29 ((n + d + 1) + 1) σT (nI k) = _
    rw [FT_weighFigures_29, e5, if_neg (nI_ge (by omega) (by omega)), gd_nI (N := 500) (by omega) (by decide), nI_clamp (by omega)]
    simp only [nm]
    rw [h3, e4, show (nI v * 10 + (nI (u k) - 48) : Int32) = nI (10 * v + (u k - 48)) from by rw [show (10 : Int32) = nI 10 from rfl, pk_mul, show (48 : Int32) = nI 48 from rfl, pk_sub h1, nI_add, Nat.mul_comm], nI_1, ih (k + 1) (10 * v + (u k - 48)) (setF σT 4 (nI (10 * v + (u k - 48)))) (by omega) e5 rfl (fun j h1 h2 => hj j (by omega) h2)]
    refine congrArg some (Prod.ext (funext fun i => ?_) rfl)
    show va_up (va_up σT.1 4 _) 4 _ i = va_up σT.1 4 _ i
    rw [up_up]
    rfl
/-- the token that both look at: from s to e, of the class's sort y -/
def TK (m : Nat) (u : Nat → Nat) (σT σ : MS) (s e y : Nat) : Prop := s ≤ e ∧ e ≤ m ∧ y < 5 ∧ (σT.1 3 = nI s ∧ σT.1 5 = nI e ∧ σT.1 2 = nI y) ∧ (σ.1 14 = nI e ∧ σ.1 16 = nI s ∧ σ.1 17 = nI e ∧ σ.1 15 = nI ((y + 1) % 5)) ∧ (y = 1 → ∀ j, s ≤ j → j < e → 97 ≤ u j ∧ u j ≤ 122) ∧ (y = 2 → e ≤ s + 3 ∧ (∀ j, s ≤ j → j < e → 48 ≤ u j ∧ u j ≤ 57) ∧ σT.1 4 = nI (dg u (e - s) s 0))
theorem tok_2 {m : Nat} {u : Nat → Nat} {σT σ : MS} (h : TPu m u σT σ) {s : Nat} (hs : s ≤ m) (hg : s < m → kd (u s) ≠ 5) (e3 : σT.1 3 = nI s) (e14 : σ.1 14 = nI s) (n' : Nat) : ∃ (σT' σ' : MS) (e y : Nat), FT_step_44 σT = some σT' ∧ FM_next_0 (n' + 1) σ = some σ' ∧ TK m u σT' σ' s e y ∧ FrT σT σT' ∧ FrM σ σ' := by
  have hm := h.1
  have h' : TPu m u (setF σT 5 (nI s)) (setF σ 16 (nI s)) := h.fr (FrT.st _ _ (by decide)) (FrM.st _ _ (by decide))
  unfold FT_step_44
  simp only [nm]
  rw [e3, show (setF σT 5 (nI s)).1 1 = nI m from h.2.1, show (setF σT 5 (nI s)).1 3 = nI s from e3]
  rcases Nat.eq_or_lt_of_le hs with z | z
  · refine ⟨setF (setF σT 5 (nI s)) 2 0, setF (setF (setF σ 16 (nI s)) 15 1) 17 (nI s), s, 0, ?_, ?_, ⟨Nat.le_refl _, hs, by decide, ⟨e3, rfl, rfl⟩, ⟨e14, rfl, rfl, rfl⟩, fun q => (by cases q), fun q => (by cases q)⟩, (FrT.st _ _ (by decide)).tr (FrT.st _ _ (by decide)), ((FrM.st _ _ (by decide)).tr (FrM.st _ _ (by decide))).tr (FrM.st _ _ (by decide))⟩
    · rw [if_pos (nI_le (by omega) (by omega))]
      unfold FT_step_76 FT_step_151
      rfl
    · rw [FM_next_0, e14, show FM_byteAt σ (nI s) = some (-1000000) from by rw [z]; exact p_byteE h, Option.bind_some, if_neg (by decide), Option.bind_some, if_neg (by decide)]
      simp only [nm]
      rw [show (setF σ 16 (nI s)).1 14 = nI s from e14, show FM_byteAt (setF σ 16 (nI s)) (nI s) = some (-1000000) from by rw [z] at h' ⊢; exact p_byteE h', Option.bind_some, if_pos rfl, FM_next_196]
      simp only [nm]
      rw [show (setF (setF σ 16 (nI s)) 15 1).1 14 = nI s from e14]
  · have hk := hg z
    have hu := (h.2.2.2 s z).1
    have hb := kd_b (u s)
    have n32 : ¬ nI (u s) = 32 := fun e => hk (kd_5.mpr (Or.inl ((nI_eq (a := u s) (b := 32) (by omega) (by decide)).mp e)))
    have n10 : ¬ nI (u s) = 10 := fun e => hk (kd_5.mpr (Or.inr ((nI_eq (a := u s) (b := 10) (by omega) (by decide)).mp e)))
    rw [if_neg (nI_ge z (by omega)), p_sort h' z, Option.bind_some]
    rw [FM_next_0, e14, p_byte h z, Option.bind_some, if_neg n32, Option.bind_some, if_neg n10]
    simp only [nm]
    rw [show (setF σ 16 (nI s)).1 14 = nI s from e14, p_byte h' z, Option.bind_some, if_neg (nI_ne_none (by omega)), let_all _ hu, Option.bind_some, fig_all _ hu, Option.bind_some]
    unfold FT_step_76
    simp only [nm]
    rw [show (setF (setF σT 5 (nI s)) 2 (nI (kd (u s)))).1 2 = nI (kd (u s)) from rfl]
    have h2 : TPu m u (setF (setF σT 5 (nI s)) 2 (nI (kd (u s)))) (setF σ 16 (nI s)) := h'.fr (FrT.st _ _ (by decide)) (FrM.rf _)
    by_cases k1 : kd (u s) = 1
    · obtain ⟨e, σT', a1, a2, a3, a4, a5, a6, a7, a8, a9⟩ := run_L (y := 1) (4999 - (m - s)) (m - s) s _ _ (by omega) h2 rfl (by rw [k1]; rfl) (by decide)
      obtain ⟨σ', c1, c2, c3, c4, c5, c6⟩ := run_77 (e := e) (4999 - (e - s)) (e - s) s _ _ (by omega) a2 h' a3 a4 e14
      rw [show 4999 - (m - s) + (m - s) + 1 = fuelN from by show _ = 5000; omega] at a5
      rw [show 4999 - (e - s) + (e - s) + 1 = fuelN from by show _ = 5000; omega] at c1
      refine ⟨σT', σ', e, 1, ?_, ?_, ⟨a1, a2, by decide, ⟨a8.trans e3, a6, a7⟩, ⟨c2, c5, c4, c3⟩, fun _ j h1 h2 => kd_1 (a3 j h1 h2), fun q => (by cases q)⟩, ((FrT.st _ _ (by decide)).tr (FrT.st _ _ (by decide))).tr a9, (FrM.st _ _ (by decide)).tr c6⟩
      · rw [if_pos (by rw [k1]; rfl), a5, FT_step_151, a7, if_neg (by decide)]
      · rw [if_pos k1, if_neg one_ne_zero32]
        exact c1
    · by_cases k2 : kd (u s) = 2
      · obtain ⟨e, σT', a1, a2, a3, a4, a5, a6, a7, a8, a9⟩ := run_L (y := 2) (4999 - (m - s)) (m - s) s _ _ (by omega) h2 rfl (by rw [k2]; rfl) (by decide)
        obtain ⟨σ', c1, c2, c3, c4, c5, c6⟩ := run_119 (e := e) (s := s) a1 (4999 - (e - s)) (e - s) s _ _ (by omega) a2 h' a3 a4 e14 rfl
        rw [show 4999 - (m - s) + (m - s) + 1 = fuelN from by show _ = 5000; omega] at a5
        rw [show 4999 - (e - s) + (e - s) + 1 = fuelN from by show _ = 5000; omega] at c1
        have hTf : FrT σT σT' := ((FrT.st _ _ (by decide)).tr (FrT.st _ _ (by decide))).tr a9
        have hMf : FrM σ σ' := (FrM.st _ _ (by decide)).tr c6
        have eM : (if (if kd (u s) = 1 then (1 : Int32) else 0) = 0 then (if (if kd (u s) = 2 then (1 : Int32) else 0) = 0 then (if nI (u s) = 59 then (FM_next_193 (setF (setF σ 16 (nI s)) 14 (nI s + 1)) 4) else (FM_next_193 (setF (setF σ 16 (nI s)) 14 (nI s + 1)) 0)) else (FM_next_119 fuelN (setF σ 16 (nI s)))) else (FM_next_77 fuelN (setF σ 16 (nI s)))) = some σ' := by
          rw [if_neg k1, if_pos rfl, if_pos k2, if_neg one_ne_zero32]
          exact c1
        have e3' : σT'.1 3 = nI s := a8.trans e3
        by_cases q : e ≤ s + 3
        · have hwf := wf_loop (u := u) (e := e) (by omega) (4999 - (e - s)) (e - s) s 0 (setF σT' 4 0) (by omega) a6 rfl (fun j h1 h2 => ⟨kd_2 (a3 j h1 h2), by
            have := kd_2 (a3 j h1 h2)
            show σT'.2 0 j = _
            rw [hTf.2]
            exact (h.2.2.2 j (by omega)).2.2.1 (by omega)⟩)
          rw [show 4999 - (e - s) + (e - s) + 1 = fuelN from by show _ = 5000; omega] at hwf
          refine ⟨setF (setF σT' 4 0) 4 (nI (dg u (e - s) s 0)), σ', e, 2, ?_, eM, ⟨a1, a2, by decide, ⟨e3', a6, a7⟩, ⟨c2, c5, c4, by rw [c3, if_pos q]; rfl⟩, fun q => (by cases q), fun _ => ⟨q, fun j h1 h2 => kd_2 (a3 j h1 h2), rfl⟩⟩, (hTf.tr (FrT.st _ _ (by decide))).tr (FrT.st _ _ (by decide)), hMf⟩
          rw [if_neg (by rw [k2]; decide), if_pos (by rw [k2]; rfl), a5, FT_step_151, a7, if_pos (show nI 2 = 2 from rfl), FT_weighFigures, a6, e3', pk_sub a1, if_pos (show nI (e - s) ≤ 3 from nI_le (b := 3) (by omega) (by decide))]
          simp only [nm]
          rw [show (setF σT' 4 0).1 3 = nI s from e3', hwf]
          rfl
        · refine ⟨setF σT' 2 4, σ', e, 4, ?_, eM, ⟨a1, a2, by decide, ⟨e3', a6, rfl⟩, ⟨c2, c5, c4, by rw [c3, if_neg q]; rfl⟩, fun q => (by cases q), fun q => (by cases q)⟩, hTf.tr (FrT.st _ _ (by decide)), hMf⟩
          rw [if_neg (by rw [k2]; decide), if_pos (by rw [k2]; rfl), a5, FT_step_151, a7, if_pos (show nI 2 = 2 from rfl), FT_weighFigures, a6, e3', pk_sub a1, if_neg (show ¬ nI (e - s) ≤ 3 from nI_ge (a := 3) (by omega) (by omega))]
          rfl
      · have k34 : kd (u s) = 3 ∨ kd (u s) = 4 := by omega
        have hL : (if nI (kd (u s)) = 1 then FT_step_95 fuelN (setF (setF σT 5 (nI s)) 2 (nI (kd (u s)))) else if nI (kd (u s)) = 2 then FT_step_95 fuelN (setF (setF σT 5 (nI s)) 2 (nI (kd (u s)))) else if nI (kd (u s)) = 0 then FT_step_151 (setF (setF σT 5 (nI s)) 2 (nI (kd (u s)))) else FT_step_151 (setF (setF (setF σT 5 (nI s)) 2 (nI (kd (u s)))) 5 (nI s + 1))) = some (setF (setF (setF σT 5 (nI s)) 2 (nI (kd (u s)))) 5 (nI (s + 1))) := by
          rw [if_neg (by rcases k34 with e | e <;> rw [e] <;> decide), if_neg (by rcases k34 with e | e <;> rw [e] <;> decide), if_neg (by rcases k34 with e | e <;> rw [e] <;> decide), FT_step_151, nI_1, if_neg (show ¬ (setF (setF (setF σT 5 (nI s)) 2 (nI (kd (u s)))) 5 (nI (s + 1))).1 2 = 2 from by show ¬ nI (kd (u s)) = 2; rcases k34 with e | e <;> rw [e] <;> decide)]
        have hM : ∀ x : Int32, FM_next_193 (setF (setF σ 16 (nI s)) 14 (nI s + 1)) x = some (setF (setF (setF (setF σ 16 (nI s)) 14 (nI (s + 1))) 15 x) 17 (nI (s + 1))) := fun x => by
          unfold FM_next_193 FM_next_196
          simp only [nm]
          rw [nI_1]
          rfl
        refine ⟨setF (setF (setF σT 5 (nI s)) 2 (nI (kd (u s)))) 5 (nI (s + 1)), setF (setF (setF (setF σ 16 (nI s)) 14 (nI (s + 1))) 15 (nI ((kd (u s) + 1) % 5))) 17 (nI (s + 1)), s + 1, kd (u s), hL, ?_, ⟨by omega, by omega, by omega, ⟨e3, rfl, rfl⟩, ⟨rfl, rfl, rfl, rfl⟩, fun q => absurd q k1, fun q => absurd q k2⟩, ((FrT.st _ _ (by decide)).tr (FrT.st _ _ (by decide))).tr (FrT.st _ _ (by decide)), (((FrM.st _ _ (by decide)).tr (FrM.st _ _ (by decide))).tr (FrM.st _ _ (by decide))).tr (FrM.st _ _ (by decide))⟩
        rw [if_neg k1, if_pos rfl, if_neg k2, if_pos rfl]
        by_cases k3 : kd (u s) = 3
        · rw [if_pos (by rw [kd_3.mp k3]; rfl), hM, k3]
          rfl
        · have k4 : kd (u s) = 4 := by omega
          rw [if_neg (show ¬ nI (u s) = 59 from fun e => k3 (kd_3.mpr ((nI_eq (a := u s) (b := 59) (by omega) (by decide)).mp e))), hM, k4]
          rfl
theorem tok_step {m : Nat} {u : Nat → Nat} {σT σ : MS} (h : TPu m u σT σ) {i : Nat} (hi : i ≤ m) (e5 : σT.1 5 = nI i) (e14 : σ.1 14 = nI i) : ∃ (σT' σ' : MS) (s e y : Nat), FT_step σT = some σT' ∧ FM_next σ = some σ' ∧ TK m u σT' σ' s e y ∧ FrT σT σT' ∧ FrM σ σ' := by
  have hm := h.1
  unfold FT_step FM_next
  simp only [nm]
  obtain ⟨s, n', σT1, σ1, a1, a2, a3, a4, a5, a6, a7, a8, a9⟩ := gap_loop (4999 - (m - i)) (m - i) i (setF σT 3 (nI i)) σ (by omega) (h.fr (FrT.st _ _ (by decide)) (FrM.rf _)) rfl e14
  rw [show 4999 - (m - i) + (m - i) + 1 = fuelN from by show _ = 5000; omega] at a4 a5
  obtain ⟨σT', σ', e, y, b1, b2, b3, b4, b5⟩ := tok_2 ((h.fr (FrT.st _ _ (by decide)) (FrM.rf _)).fr a8 a9) a2 a3 a6 a7 n'
  refine ⟨σT', σ', s, e, y, ?_, a5.trans b2, b3, ((FrT.st _ _ (by decide)).tr a8).tr b4, a9.tr b5⟩
  rw [e5, a4]
  exact b1
