/-! PURE: tour: the class's search; the call -/
def AccC (n : Nat) (σC : MS) (acc : Option (Nat × List Nat)) : Prop := match acc with
  | none => σC.1 3 = -1000000
  | some a => σC.1 3 = nI a.1 ∧ a.1 < 10000 ∧ ∀ j, j < n → σC.2 0 j = nI (a.2.getD j 0)
theorem nI_ne_none {x : Nat} (h : x < 2 ^ 31) : ¬ nI x = -1000000 := by
  intro e
  have : (nI x).toInt = (-1000000 : Int32).toInt := by rw [e]
  rw [nI_toInt h, show (-1000000 : Int32).toInt = -1000000 from by decide] at this
  omega
theorem p_come {n : Nat} (hn : n ≤ 6) {σC : MS} {acc : Option (Nat × List Nat)} (hA : AccC n σC acc) {pre : List Nat} (hp : pre.length = n) (hP : ∀ j, j < n → σC.2 1 j = nI (pre.getD j 0)) {g : Nat} (hg : g < 9000) (c : Option Nat) (hc : ∀ x, c = some x → x < 1000) : ∃ σC', FC_comeHome σC (nI g) (match c with | some x => nI x | none => -1000000) = some σC' ∧ σC'.1 2 = σC.1 2 ∧ σC'.2 1 = σC.2 1 ∧ AccC n σC' (stp acc (c.map (fun x => g + x)) pre) := by
  unfold FC_comeHome
  cases c with
  | none => exact ⟨σC, if_pos rfl, rfl, rfl, hA⟩
  | some x =>
    have hx := hc x rfl
    have h25 : FC_comeHome_25 σC (nI g) (nI x) = some (setR (setF σC 3 (nI (g + x))) 0 (va_cpy (σC.2 1) (σC.2 0) 0 0 6)) := by
      unfold FC_comeHome_25
      simp only [nm]
      rw [gd_t (by decide), nI_add]
      rfl
    have hnew : AccC n (setR (setF σC 3 (nI (g + x))) 0 (va_cpy (σC.2 1) (σC.2 0) 0 0 6)) (some (g + x, pre)) := by
      refine ⟨rfl, by show g + x < 10000; omega, fun j hj => ?_⟩
      rw [setR_get, ← hP j hj]
      have := cpy_in (σC.2 1) (σC.2 0) (sp := 0) (dp := 0) (n := 6) (j := j) (by omega)
      rw [Nat.zero_add] at this
      exact this
    dsimp only
    rw [if_neg (nI_ne_none (by omega)), h25]
    cases acc with
    | none =>
      have hA : σC.1 3 = -1000000 := hA
      rw [if_pos hA]
      exact ⟨_, rfl, rfl, rfl, hnew⟩
    | some a =>
      obtain ⟨a1, a2, a3⟩ := hA
      rw [a1, if_neg (nI_ne_none (by omega)), nI_add]
      by_cases hl : a.1 ≤ g + x
      · rw [if_pos (nI_le hl (by omega))]
        refine ⟨σC, rfl, rfl, rfl, ?_⟩
        show AccC n σC (if g + x < a.1 then _ else _)
        rw [if_neg (by omega)]
        exact ⟨a1, a2, a3⟩
      · rw [if_neg (nI_ge (by omega) (by omega))]
        refine ⟨_, rfl, rfl, rfl, ?_⟩
        show AccC n _ (if g + x < a.1 then _ else _)
        rw [if_pos (by omega)]
        exact hnew
theorem PLf_nil (f : Nat → List (List Nat)) {b : Nat} : ∀ (c h : Nat), b < 2 ^ h → PLf f b c h = [] := by
  intro c
  induction c with
  | zero => intro h _; rfl
  | succ c ih =>
    intro h hb
    show (if b / 2 ^ h % 2 = 1 then _ else []) ++ PLf f b c (h + 1) = []
    rw [Nat.div_eq_of_lt hb, if_neg (by decide), ih (h + 1) (Nat.lt_of_lt_of_le hb (Nat.pow_le_pow_right (by decide) (Nat.le_succ h)))]
    rfl
theorem fd_none {w : Nat → Nat → Option Nat} {t : Nat → Nat} {z g h : Nat} {pre : List Nat} (hw : w z (t h) = none) : ∀ (L : List (List Nat)) (acc : Option (Nat × List Nat)), fd w t z g pre acc (L.map (fun q => h :: q)) = acc := by
  intro L
  induction L with
  | nil => intro acc; rfl
  | cons q L ih =>
    intro acc
    show fd w t z g pre (stp acc (walk w t z g (h :: q)) (pre ++ h :: q)) (L.map (fun q => h :: q)) = acc
    rw [walk, hw]
    exact ih acc
theorem fd_some {w : Nat → Nat → Option Nat} {t : Nat → Nat} {z g h x : Nat} {pre : List Nat} (hw : w z (t h) = some x) : ∀ (L : List (List Nat)) (acc : Option (Nat × List Nat)), fd w t z g pre acc (L.map (fun q => h :: q)) = fd w t (t h) (g + x) (pre ++ [h]) acc L := by
  intro L
  induction L with
  | nil => intro acc; rfl
  | cons q L ih =>
    intro acc
    show fd w t z g pre (stp acc (walk w t z g (h :: q)) (pre ++ h :: q)) (L.map (fun q => h :: q)) = fd w t (t h) (g + x) (pre ++ [h]) (stp acc (walk w t (t h) (g + x) q) (pre ++ [h] ++ q)) L
    rw [walk, hw, List.append_assoc]
    exact ih _
def Pth (σC : MS) (pre : List Nat) : Prop := ∀ j, j < pre.length → σC.2 1 j = nI (pre.getD j 0)
theorem go32 {w : Nat → Nat → Option Nat} {t : Nat → Nat} {H : Nat} {σL σ : MS} (T : TD w t H σL σ) {n d : Nat} (hn : n ≤ 6) {rc : MS → MS → Int32 → Int32 → Int32 → Int32 → Option MS}
    (hrc : ∀ (σC : MS) (b z g : Nat) (pre : List Nat) (acc : Option (Nat × List Nat)), pre.length + d = n → b < 2 ^ H → z < 8 → g ≤ 1000 * pre.length → σC.1 2 = nI n → Pth σC pre → AccC n σC acc → ∃ σC', rc σC σL (nI b) (nI z) (nI g) (nI pre.length) = some σC' ∧ σC'.1 2 = nI n ∧ Pth σC' pre ∧ AccC n σC' (fd w t z g pre acc (PLs d b)))
    {b z g : Nat} {pre : List Nat} (hpre : pre.length + (d + 1) = n) (hb : b < 2 ^ H) (hz : z < 8) (hg : g ≤ 1000 * pre.length) (m : Nat) : ∀ (c h : Nat) (σC : MS) (acc : Option (Nat × List Nat)), h + c = 6 → σC.1 2 = nI n → Pth σC pre → AccC n σC acc → ∃ σC', FC_goOn_32 rc (m + c + 1) σC σL (nI b) (nI z) (nI g) (nI pre.length) (nI h) = some σC' ∧ σC'.1 2 = nI n ∧ Pth σC' pre ∧ AccC n σC' (fd w t z g pre acc (PLf (PLs d) b c h)) := by
  have T' := T
  obtain ⟨hw, hH, eH, hdist, -, ht⟩ := T'
  have hb6 : b < 64 := Nat.lt_of_lt_of_le hb (Nat.pow_le_pow_right (by decide) hH : 2 ^ H ≤ 2 ^ 6)
  intro c
  induction c with
  | zero =>
    intro h σC acc hh e2 hP hA
    have hh : h = 6 := hh
    refine ⟨σC, ?_, e2, hP, hA⟩
    rw [FC_goOn_32, eH, if_pos (nI_le (by omega) (by omega))]
  | succ c ih =>
    intro h σC acc hh e2 hP hA
    show ∃ σC', FC_goOn_32 rc ((m + c + 1) + 1) σC σL _ _ _ _ _ = _ ∧ _
    rw [FC_goOn_32, eH]
    by_cases hc : H ≤ h
    · rw [if_pos (nI_le hc (by omega)), PLf_nil _ _ _ (Nat.lt_of_lt_of_le hb (Nat.pow_le_pow_right (by decide) hc))]
      exact ⟨σC, rfl, e2, hP, hA⟩
    · obtain ⟨t1, t2, -⟩ := ht h (by omega)
      rw [if_neg (nI_ge (by omega) (by omega))]
      simp only [nm, FC_goOn_110]
      rw [gd_nI (j := h) (N := 6) (by omega) (by decide), nI_clamp (n := h) (by omega), t2, hdist z (t h) hz t1, Option.bind_some, bitv b hb6 h (by omega)]
      have eP : PLf (PLs d) b (c + 1) h = (if b / 2 ^ h % 2 = 1 then (PLs d (b - 2 ^ h)).map (fun q => h :: q) else []) ++ PLf (PLs d) b c (h + 1) := rfl
      by_cases hbit : b / 2 ^ h % 2 = 1
      · rw [if_pos hbit] at eP
        rw [eP, hbit, if_pos (show nI 1 = 1 from rfl)]
        have ef : fd w t z g pre acc ((PLs d (b - 2 ^ h)).map (fun q => h :: q) ++ PLf (PLs d) b c (h + 1)) = fd w t z g pre (fd w t z g pre acc ((PLs d (b - 2 ^ h)).map (fun q => h :: q))) (PLf (PLs d) b c (h + 1)) := List.foldl_append
        rw [ef]
        cases e : w z (t h) with
        | none =>
          rw [fd_none e]
          dsimp only
          rw [if_pos rfl, nI_1]
          exact ih (h + 1) σC acc (by omega) e2 hP hA
        | some x =>
          have hx := hw z (t h) x e
          rw [fd_some e]
          dsimp only
          rw [if_neg (nI_ne_none (by omega)), gd_nI (j := pre.length) (N := 6) (by omega) (by decide), nI_clamp (n := pre.length) (by omega), gd_cl (j := h) (N := 6) (by omega) (by decide), bitx b hb6 h (by omega) hbit, nI_add, nI_1, nI_1]
          have hl : (pre ++ [h]).length = pre.length + 1 := by rw [List.length_append]; rfl
          obtain ⟨σC1, i1, i2, i3, i4⟩ := hrc (setA σC 1 pre.length (nI h)) (b - 2 ^ h) (t h) (g + x) (pre ++ [h]) acc (by omega) (Nat.lt_of_le_of_lt (Nat.sub_le _ _) hb) t1 (by omega) e2 (by
            intro j hj
            rw [hl] at hj
            rw [getD_app1]
            show upd (σC.2 1) pre.length (nI h) j = _
            by_cases h1 : j < pre.length
            · rw [if_pos h1, pk_un (by omega)]
              exact hP j h1
            · have e : j = pre.length := by omega
              rw [if_neg h1, if_pos e, e, pk_us]) (by
            cases acc with
            | none => exact hA
            | some a => exact hA)
          rw [hl] at i1
          rw [i1, Option.bind_some]
          refine ih (h + 1) σC1 _ (by omega) i2 (fun j hj => ?_) i4
          rw [i3 j (by omega), getD_app1, if_pos hj]
      · rw [if_neg hbit] at eP
        have h0 : b / 2 ^ h % 2 = 0 := by omega
        rw [eP, h0, if_neg (show ¬ nI 0 = 1 by decide), nI_1]
        exact ih (h + 1) σC acc (by omega) e2 hP hA
theorem go_all {w : Nat → Nat → Option Nat} {t : Nat → Nat} {H : Nat} {σL σ : MS} (T : TD w t H σL σ) {n : Nat} (hn : n ≤ 6) (m : Nat) : ∀ (d : Nat) (σC : MS) (b z g : Nat) (pre : List Nat) (acc : Option (Nat × List Nat)), pre.length + d = n → b < 2 ^ H → z < 8 → g ≤ 1000 * pre.length → σC.1 2 = nI n → Pth σC pre → AccC n σC acc → ∃ σC', FC_goOn (m + d + 1) σC σL (nI b) (nI z) (nI g) (nI pre.length) = some σC' ∧ σC'.1 2 = nI n ∧ Pth σC' pre ∧ AccC n σC' (fd w t z g pre acc (PLs d b)) := by
  intro d
  induction d with
  | zero =>
    intro σC b z g pre acc hp hb hz hg e2 hP hA
    have hp : pre.length = n := hp
    show ∃ σC', FC_goOn_B (FC_goOn (m + 0)) σC σL (nI b) (nI z) (nI g) (nI pre.length) = _ ∧ _
    unfold FC_goOn_B FC_goOn_16
    rw [e2, hp, if_pos (nI_le (Nat.le_refl _) (by omega)), show FL_distance σL (nI z) 0 = _ from T.2.2.2.1 z 0 hz (by decide), Option.bind_some]
    obtain ⟨σC', i1, i2, i3, i4⟩ := p_come hn hA hp (fun j hj => hP j (by omega)) (g := g) (by omega) (w z 0) (fun x hx => T.1 z 0 x hx)
    refine ⟨σC', ?_, i2.trans e2, fun j hj => by rw [i3]; exact hP j hj, ?_⟩
    · exact congrArg (fun o => Option.bind o fun (σ16 : MS) => some σ16) i1
    · show AccC n σC' (stp acc (walk w t z g []) (pre ++ []))
      rw [List.append_nil, walk]
      exact i4
  | succ d ih =>
    intro σC b z g pre acc hp hb hz hg e2 hP hA
    show ∃ σC', FC_goOn_B (FC_goOn (m + d + 1)) σC σL (nI b) (nI z) (nI g) (nI pre.length) = _ ∧ _
    unfold FC_goOn_B
    rw [e2, if_neg (nI_ge (by omega) (by omega)), if_pos (show nI pre.length < 6 from nI_lt (b := 6) (by omega) (by decide))]
    exact go32 T hn ih hp hb hz hg 4993 6 0 σC acc (by decide) e2 hP hA
theorem saved_loop {k : Nat} {σL σ : MS} (h : RReal k (σL.1 4) (σL.1 5) (σL.1 6) (σL.1 7) (σL.2 0) (σL.2 1) (σL.2 2) (σL.2 3) (σ.2 5)) {N : Nat} (hN : N ≤ 12) (e1 : σL.1 7 = nI N) (e2 : σ.2 5 3 = nI N) (l m : Int32) (n : Nat) : ∀ (d c : Nat) (acc : Int32), c + d = N → ∃ r, FL_savedByTour_5 (n + d + 1) σL l m acc (nI c) = some r ∧ FM_savedBy_5 (n + d + 1) σ l m acc (nI c) = some r := by
  intro d
  induction d with
  | zero =>
    intro c acc hc
    refine ⟨acc, ?_, ?_⟩
    · unfold FL_savedByTour_5
      rw [e1, if_pos (nI_le (by omega) (by omega))]
    · unfold FM_savedBy_5
      rw [gd_t (by decide), show Int32.toNatClampNeg 3 = 3 from by decide, e2, if_pos (nI_le (by omega) (by omega))]
  | succ d ih =>
    intro c acc hc
    obtain ⟨q, t, C⟩ := h.cn (j := c) (by omega) (by rw [e1]; exact nI_lt (by omega) (by omega))
    obtain ⟨-, ⟨a0, a1, -⟩, ⟨o0, o1, o2, o3, -, o5⟩, ⟨-, -, ls, ms⟩, ⟨fo, du, wi⟩, -, -, hd, -⟩ := C
    have hge : ¬ nI N ≤ nI c := nI_ge (by omega) (by omega)
    have L0 : FL_savedByTour_5 (n + (d + 1) + 1) σL l m acc (nI c) = FL_savedByTour_5 (n + (d + 1)) σL l m (if σL.2 3 (5 * c + 2) = 0 ∧ ((l >>> (nI q &&& 31)) &&& 1) = 1 ∧ ¬ σL.2 2 c = 5 ∧ σL.2 3 (5 * c + 4) = 0 ∧ ¬ spanV (σL.2 2 c) (σL.1 5) < σL.2 3 (5 * c + 1) + m then acc + 1 else acc) (nI (c + 1)) := by
      conv => lhs; unfold FL_savedByTour_5 FL_savedByTour_42 FL_savedByTour_43 FL_savedByTour_89
      rw [wi, a0, fo, du, ls, a1]
      simp only [e1, hge, if_false, Option.bind_some, nm, ← nI_succ]
      generalize ((l >>> (nI q &&& 31)) &&& 1 : Int32) = B
      by_cases z1 : σL.2 3 (5 * c + 2) = 0
      · by_cases z2 : B = 1
        · by_cases z3 : σL.2 2 c = 5
          · simp [z1, z2, z3]
          · rcases hd with hd | hd
            · by_cases z4 : spanV (σL.2 2 c) (σL.1 5) < σL.2 3 (5 * c + 1) + m
              · simp [z1, z2, z3, hd, z4]
              · simp [z1, z2, z3, hd, z4]
            · simp [z1, z2, z3, hd]
        · simp [z1, z2]
      · simp [z1]
    have M0 : FM_savedBy_5 (n + (d + 1) + 1) σ l m acc (nI c) = FM_savedBy_5 (n + (d + 1)) σ l m (if σL.2 3 (5 * c + 2) = 0 ∧ ((l >>> (nI q &&& 31)) &&& 1) = 1 ∧ ¬ σL.2 2 c = 5 ∧ σL.2 3 (5 * c + 4) = 0 ∧ ¬ spanV (σL.2 2 c) (σL.1 5) < σL.2 3 (5 * c + 1) + m then acc + 1 else acc) (nI (c + 1)) := by
      conv => lhs; unfold FM_savedBy_5 FM_savedBy_45 FM_savedBy_46 FM_savedBy_91 FM_savedBy_92 FM_savedBy_109 FM_savedBy_110
      rw [gd_t (by decide), show Int32.toNatClampNeg 3 = 3 from by decide, o3, o1, o0, o5, o2, ms]
      simp only [e2, hge, if_false, Option.bind_some, nm, ← nI_succ]
      generalize ((l >>> (nI q &&& 31)) &&& 1 : Int32) = B
      by_cases z1 : σL.2 3 (5 * c + 2) = 0
      · by_cases z2 : B = 1
        · by_cases z3 : σL.2 2 c = 5
          · simp [z1, z2, z3]
          · rcases hd with hd | hd
            · by_cases z4 : spanV (σL.2 2 c) (σL.1 5) < σL.2 3 (5 * c + 1) + m
              · simp [z1, z2, z3, hd, z4]
              · simp [z1, z2, z3, hd, z4]
            · simp [z1, z2, z3, hd]
        · simp [z1, z2]
      · simp [z1]
    rw [L0, M0]
    exact ih (c + 1) _ (by omega)
theorem tour66_loop (σ : MS) {b : Nat} (hb : b < 64) (l2 l3 : Int32) (m : Nat) : ∀ (d i : Nat), i + d = 6 → FM_tour_66 (m + d + 1) σ (nI b) l2 l3 (nI (cnt6 b i)) (nI i) = (if l2 = (-2) then (Option.bind (FM_savedBy σ (nI b) l3) fun (r15 : Int32) => some (r15, σ)) else (if l2 = (-1) then (some (l3, σ)) else (if nI (cnt6 b 6) ≤ l2 then (some ((-1000000), σ)) else (gd (¬ ((l2 : Int32) < 0 ∨ 6 ≤ Int32.toNatClampNeg l2)) (some ((σ.2 21 (Int32.toNatClampNeg l2)), σ)))))) := by
  intro d
  induction d with
  | zero =>
    intro i hi
    have hi : i = 6 := hi
    subst hi
    rw [FM_tour_66, if_pos (show (6 : Int32) ≤ nI 6 by decide)]
  | succ d ih =>
    intro i hi
    show FM_tour_66 ((m + d + 1) + 1) σ _ _ _ _ _ = _
    rw [FM_tour_66, if_neg (show ¬ (6 : Int32) ≤ nI i from nI_ge (b := 6) (by omega) (by decide)), bitv b hb i (by omega)]
    simp only [nm]
    rw [nI_add, nI_1]
    exact ih (i + 1) (by omega)
theorem Rel.s21 {k : Nat} {σP σL σG σR σT σC σC' σA σK : MS} {ω ι : Nat → MS} {σ σ' : MS} (h : Rel k σP σL σG σR σT σC σA σK ω ι σ) (hS : S21 (setF σ 0 0) σ') : Rel (k + 1) σP σL σG σR σT σC' σA σK ω ι σ' := by
  obtain ⟨q1, q2⟩ := hS
  have hF : ∀ i, i ≠ 0 → σ'.1 i = σ.1 i := fun i h0 => by rw [q1]; exact va_up_ne _ _ h0
  have hA : ∀ i, i ≠ 20 → i ≠ 21 → σ'.2 i = σ.2 i := q2
  obtain ⟨⟨h1, h2⟩, h3, h9, ⟨h4, h5⟩, h6, h7, h8⟩ := Rel.mono _ _ _ _ _ _ _ _ _ _ _ _ h
  refine ⟨⟨?_, ?_⟩, ?_, ?_, ⟨?_, ?_⟩, ?_, ?_, ?_⟩
  · rw [hF 1 (by decide)]; exact h1
  · rw [hF 12 (by decide)]; exact h2
  · rw [hA 2 (by decide) (by decide), hA 3 (by decide) (by decide), hA 4 (by decide) (by decide)]; exact h3
  · rw [hF 11 (by decide), hA 10 (by decide) (by decide)]; exact h9
  · rw [hF 7 (by decide)]; exact h4
  · rw [hA 5 (by decide) (by decide)]; exact h5
  · rw [hF 9 (by decide), hA 8 (by decide) (by decide)]; exact h6
  · rw [hA 22 (by decide) (by decide), hA 23 (by decide) (by decide)]; exact h7
  · rw [hF 25 (by decide), hA 24 (by decide) (by decide)]; exact h8
theorem hold2 : ∀ H, H < 7 → ((1 <<< (nI H &&& 31)) - 1 : Int32) = nI (2 ^ H - 1) := by decide +kernel
theorem bitc : ∀ b, b < 64 → FJ_bitCount_0f7a4 (nI b) = some (nI (cnt6 b 6)) := by decide +kernel
theorem p_plan {w : Nat → Nat → Option Nat} {t : Nat → Nat} {H : Nat} {σL σ : MS} (T : TD w t H σL σ) (σC : MS) {b : Nat} (hb : b < 2 ^ H) : ∃ σC', FC_plan σC σL (nI b) = some (σC'.1 3, σC') ∧ σC'.1 2 = nI (cnt6 b 6) ∧ AccC (cnt6 b 6) σC' (fd w t 0 0 [] none (PLs (cnt6 b 6) b)) := by
  have hb6 : b < 64 := Nat.lt_of_lt_of_le hb (Nat.pow_le_pow_right (by decide) T.2.1 : 2 ^ H ≤ 2 ^ 6)
  have hn := cnt6_le b 6
  obtain ⟨σC', j1, j2, -, j4⟩ := go_all T hn (7 - cnt6 b 6) (cnt6 b 6) (setF (setF σC 2 (nI (cnt6 b 6))) 3 (-1000000)) b 0 0 [] none (by show 0 + _ = _; omega) hb (by decide) (by decide) rfl (fun j hj => absurd hj (Nat.not_lt_zero j)) rfl
  rw [show 7 - cnt6 b 6 + cnt6 b 6 + 1 = 8 from by omega] at j1
  refine ⟨σC', ?_, j2, j4⟩
  unfold FC_plan
  rw [bitc b hb6, Option.bind_some]
  simp only [nm]
  rw [show FC_goOn 8 (setF (setF σC 2 (nI (cnt6 b 6))) 3 (-1000000)) σL (nI b) 0 0 0 = _ from j1]
  rfl
theorem sim_tour : Sim_tour Rel := by
  intro k σP σL σG σR σT σC σA σK ω ι σ a1 a2 hk h
  have hm := Rel.mono _ _ _ _ _ _ _ _ _ _ _ _ h
  obtain ⟨et, hR⟩ := h.2.2.2.1
  by_cases h0 : σL.1 4 = 0
  · refine ⟨-1000002, σC, setF σ 0 0, ?_, ?_, hm⟩
    · unfold FP_tour
      rw [if_pos h0]
    · unfold FM_tour
      show (if σ.1 7 = 0 then _ else _) = _
      rw [if_pos (by rw [← et]; exact h0)]
  have h1 : σL.1 4 = 1 := hR.1.resolve_left h0
  have h0' : ¬ σ.1 7 = 0 := by rw [← et]; exact h0
  obtain ⟨w, t, H, T⟩ := td_of (σ := setF σ 0 0) hR h1
  have hH := T.2.1
  have eH := T.2.2.1
  have eH2 : σ.2 5 2 = nI H := by rw [← hR.2.1.2.1]; exact eH
  have hLc : FP_outside a1 1 ((1 <<< ((σL.1 6) &&& 31)) - 1) = some (if 1 ≤ a1 ∧ a1 ≤ nI (2 ^ H - 1) then 0 else 1) := by
    rw [p_outside, eH, hold2 H (by omega)]
  have hMc : FM_in (Int32.toInt64 a1) 1 (Int32.toInt64 ((1 <<< ((σ.2 5 2) &&& 31)) - 1)) = some (if 1 ≤ a1 ∧ a1 ≤ nI (2 ^ H - 1) then 1 else 0) := by
    rw [eH2, hold2 H (by omega)]
    exact p_in a1 1 _
  have hM0 : FM_tour σ a1 a2 = Option.bind (FM_in (Int32.toInt64 a1) 1 (Int32.toInt64 ((1 <<< ((σ.2 5 2) &&& 31)) - 1))) fun (r4 : Int32) => if r4 = 0 then (some ((-1000001), setF σ 0 0)) else (if (-2) ≤ a2 then (bd2 (FM_layTour (setF σ 0 0) a1) fun (r7 : Int32) (σ8 : MS) => if r7 = 10000 then (some ((-1000000), σ8)) else (FM_tour_66 fuelN σ8 a1 a2 r7 0 0)) else (some ((-1000001), setF σ 0 0))) := by
    unfold FM_tour
    simp only [nm]
    rw [show (setF σ 0 0).1 7 = σ.1 7 from rfl, if_neg h0', gd_t (by decide), show Int32.toNatClampNeg 2 = 2 from by decide]
    rfl
  by_cases hc : 1 ≤ a1 ∧ a1 ≤ nI (2 ^ H - 1)
  · by_cases hk2 : (-2 : Int32) ≤ a2
    · have hp2 : 2 ^ H ≤ 2 ^ 6 := Nat.pow_le_pow_right (by decide) hH
      have hp0 : 0 < 2 ^ H := Nat.two_pow_pos H
      obtain ⟨b, hbb, rfl⟩ := nI_of (x := a1) (fun z => by
        have := hc.1
        rw [Int32.le_iff_toInt_le] at this
        rw [Int32.lt_iff_toInt_lt] at z
        have e1 : (1 : Int32).toInt = 1 := by decide
        have e2 : (0 : Int32).toInt = 0 := by decide
        omega)
      have hb1 : 1 ≤ b := (nI_leI (a := 1) (by decide) hbb).mp hc.1
      have hb : b < 2 ^ H := by
        have := (nI_leI hbb (by omega)).mp hc.2
        omega
      have hb6 : b < 64 := by omega
      obtain ⟨σ', i1, i2, i3⟩ := lay_all T hb hb1
      obtain ⟨σC', j1, j2, j4⟩ := p_plan T σC hb
      have hm' : Rel (k + 1) σP σL σG σR σT σC' σA σK ω ι σ' := h.s21 i3
      have hn := cnt6_le b 6
      generalize hA : fd w t 0 0 [] none (PLs (cnt6 b 6) b) = A at i1 i2 j4
      have hL1 : ∀ x, (if σC'.1 3 = (-1000000) then (some ((-1000000 : Int32), σC')) else (if a2 = (-2) then (Option.bind (FL_savedByTour σL (nI b) (σC'.1 3)) fun (r11 : Int32) => some (r11, σC')) else (if a2 = (-1) then (some (σC'.1 3, σC')) else (Option.bind (FC_stop σC' a2) fun (r10 : Int32) => some (r10, σC'))))) = x → FP_tour σL σC (nI b) a2 = x := by
        intro x hx
        unfold FP_tour
        rw [if_neg h0, hLc, if_pos hc, Option.bind_some, if_pos rfl, if_pos hk2, j1]
        exact hx
      have hM1 : ∀ x, (if nI (cst A) = 10000 then (some ((-1000000 : Int32), σ')) else (FM_tour_66 fuelN σ' (nI b) a2 (nI (cst A)) 0 0)) = x → FM_tour σ (nI b) a2 = x := by
        intro x hx
        rw [hM0, hMc, if_pos hc, Option.bind_some, if_neg one_ne_zero32, if_pos hk2, i1]
        exact hx
      have h66 : ∀ l3, FM_tour_66 fuelN σ' (nI b) a2 l3 0 0 = _ := fun l3 => tour66_loop σ' hb6 a2 l3 4993 6 0 (by decide)
      cases A with
      | none =>
        have j4 : σC'.1 3 = -1000000 := j4
        exact ⟨-1000000, σC', σ', hL1 _ (by rw [if_pos j4]), hM1 _ (if_pos (show nI (cst none) = 10000 from rfl)), hm'⟩
      | some a =>
        obtain ⟨q1, q2, q3⟩ := j4
        obtain ⟨-, q4⟩ := i2 a rfl
        rw [q1, if_neg (nI_ne_none (by omega))] at hL1
        have hne : ¬ nI (cst (some a)) = 10000 := by
          intro e
          have := (nI_eq (a := a.1) (b := 10000) (by omega) (by decide)).mp e
          omega
        rw [if_neg hne, h66] at hM1
        by_cases z1 : a2 = -2
        · obtain ⟨N, hN, e1, e2⟩ := hR.num
          have e5 : σ'.2 5 = σ.2 5 := i3.2 5 (by decide) (by decide)
          obtain ⟨r, s1, s2⟩ := saved_loop (σ := σ') (k := k) (by rw [e5]; exact hR) hN e1 (by rw [e5]; exact e2) (nI b) (nI a.1) (4999 - N) N 0 0 (by omega)
          rw [show 4999 - N + N + 1 = fuelN from by show _ = 5000; omega] at s1 s2
          refine ⟨r, σC', σ', hL1 _ ?_, hM1 _ ?_, hm'⟩
          · rw [if_pos z1]
            unfold FL_savedByTour
            rw [show FL_savedByTour_5 fuelN σL (nI b) (nI a.1) 0 0 = _ from s1]
            rfl
          · rw [if_pos z1]
            unfold FM_savedBy
            rw [show FM_savedBy_5 fuelN σ' (nI b) (nI (cst (some a))) 0 0 = _ from s2]
            rfl
        by_cases z2 : a2 = -1
        · refine ⟨nI a.1, σC', σ', hL1 _ ?_, hM1 _ ?_, hm'⟩
          · rw [if_neg z1, if_pos z2]
          · rw [if_neg z1, if_pos z2]
            rfl
        have hpos : 0 ≤ a2 := by
          have y1 : ¬ a2.toInt = -2 := fun e => z1 (Int32.toInt_inj.mp (by rw [e]; decide))
          have y2 : ¬ a2.toInt = -1 := fun e => z2 (Int32.toInt_inj.mp (by rw [e]; decide))
          rw [Int32.le_iff_toInt_le] at hk2 ⊢
          have e1 : (-2 : Int32).toInt = -2 := by decide
          have e2 : (0 : Int32).toInt = 0 := by decide
          omega
        obtain ⟨j, hj, rfl⟩ := nI_of (x := a2) (Int32.not_lt.mpr hpos)
        by_cases hjn : j < cnt6 b 6
        · refine ⟨nI (a.2.getD j 0), σC', σ', hL1 _ ?_, hM1 _ ?_, hm'⟩
          · rw [if_neg z1, if_neg z2]
            unfold FC_stop
            rw [p_outside, j2, if_pos ((ixm (by omega)).mpr ⟨j, hjn, rfl⟩), Option.bind_some, if_pos rfl, gd_nI (N := 6) (by omega) (by decide), nI_clamp (by omega), q3 j hjn]
            rfl
          · rw [if_neg z1, if_neg z2, if_neg (nI_ge hjn (by omega)), gd_nI (N := 6) (by omega) (by decide), nI_clamp (by omega), q4 j hjn]
        · refine ⟨-1000000, σC', σ', hL1 _ ?_, hM1 _ ?_, hm'⟩
          · rw [if_neg z1, if_neg z2]
            unfold FC_stop
            rw [p_outside, j2, if_neg (fun z => by
              obtain ⟨i, hi, e⟩ := (ixm (by omega)).mp z
              have := (nI_eq hj (by omega)).mp e
              omega), Option.bind_some, if_neg one_ne_zero32]
            rfl
          · rw [if_neg z1, if_neg z2, if_pos (nI_le (by omega) hj)]
    · refine ⟨-1000001, σC, setF σ 0 0, ?_, ?_, hm⟩
      · unfold FP_tour
        rw [if_neg h0, hLc, if_pos hc, Option.bind_some, if_pos rfl, if_neg hk2]
      · rw [hM0, hMc, if_pos hc, Option.bind_some, if_neg one_ne_zero32, if_neg hk2]
  · refine ⟨-1000001, σC, setF σ 0 0, ?_, ?_, hm⟩
    · unfold FP_tour
      rw [if_neg h0, hLc, if_neg hc, Option.bind_some, if_neg one_ne_zero32]
    · rw [hM0, hMc, if_neg hc, Option.bind_some, if_pos rfl]
