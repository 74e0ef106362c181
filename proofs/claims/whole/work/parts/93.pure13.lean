/-! PURE: undo, image, restore -/
def SameM (σ σ' : MS) : Prop := (∀ i, i ≠ 0 → i ≠ 1 → i ≠ 9 → i ≠ 12 → σ'.1 i = σ.1 i) ∧ (∀ i, i ≠ 5 → i ≠ 8 → σ'.2 i = σ.2 i)
theorem SameM.trans {a b c : MS} (h : SameM a b) (h' : SameM b c) : SameM a c := ⟨fun i h0 h1 h2 h3 => (h'.1 i h0 h1 h2 h3).trans (h.1 i h0 h1 h2 h3), fun i h0 h1 => (h'.2 i h0 h1).trans (h.2 i h0 h1)⟩
theorem SameM.F0 (σ : MS) : SameM σ (setF σ 0 0) := ⟨fun i h0 _ _ _ => va_up_ne _ _ h0, fun _ _ _ => rfl⟩
theorem SameM.keep (σ : MS) (w : Nat → Int32) (a : Int32) : SameM σ (setF (setR σ 8 w) 9 a) := ⟨fun i _ _ h _ => va_up_ne _ _ h, fun i _ h => va_up_ne _ _ h⟩
theorem SameM.R5 (σ : MS) (g : Nat → Int32) : SameM σ (setR σ 5 g) := ⟨fun _ _ _ _ _ => rfl, fun i h _ => va_up_ne _ _ h⟩
theorem SameM.F9 (σ : MS) (x : Int32) : SameM σ (setF σ 9 x) := ⟨fun i _ _ h _ => va_up_ne _ _ h, fun _ _ _ => rfl⟩
theorem SameM.F1 (σ : MS) (x : Int32) : SameM σ (setF σ 1 x) := ⟨fun i _ h _ _ => va_up_ne _ _ h, fun _ _ _ => rfl⟩
theorem Rel.kr {k : Nat} {σP σP' σL σL' σG σR σT σC σA σK σK' : MS} {ω ι : Nat → MS} {σ σ' : MS} (h : Rel k σP σL σG σR σT σC σA σK ω ι σ) (hS : SameM σ σ') (hL : σL'.1 4 = σL.1 4) (hP : σP'.1 9 = σ'.1 1 ∧ σP'.1 10 = σ'.1 12) (hR : RReal (k + 1) (σL'.1 4) (σL'.1 5) (σL'.1 6) (σL'.1 7) (σL'.2 0) (σL'.2 1) (σL'.2 2) (σL'.2 3) (σ'.2 5)) (hA : RActs (k + 1) σL' σK' (σ'.1 9) (σ'.2 8)) : Rel (k + 1) σP' σL' σG σR σT σC σA σK' ω ι σ' := by
  obtain ⟨-, h2, h3, ⟨h4, -⟩, -, h7, h8⟩ := Rel.mono _ _ _ _ _ _ _ _ _ _ _ _ h
  refine ⟨hP, ?_, ?_, ⟨?_, hR⟩, hA, ?_, ?_⟩
  · rw [hS.2 2 (by decide) (by decide), hS.2 3 (by decide) (by decide), hS.2 4 (by decide) (by decide)]; exact h2
  · rw [hS.1 11 (by decide) (by decide) (by decide) (by decide), hS.2 10 (by decide) (by decide)]; exact h3
  · rw [hL, h4, hS.1 7 (by decide) (by decide) (by decide) (by decide)]
  · rw [hL, hS.2 22 (by decide) (by decide), hS.2 23 (by decide) (by decide)]; exact h7
  · rw [hS.1 25 (by decide) (by decide) (by decide) (by decide), hS.2 24 (by decide) (by decide)]; exact h8
theorem undo27_loop (σ : MS) {a : Nat} (ha : a < 24) (ea : σ.1 9 = nI a) (n : Nat) : ∀ (d c : Nat), c + d = 147 → FM_undo_27 (n + d + 1) (setR σ 5 (va_cpy (σ.2 8) (σ.2 5) (147 * a) 0 c)) (nI c) = some (nI a, setR σ 5 (va_cpy (σ.2 8) (σ.2 5) (147 * a) 0 147)) := by
  intro d
  induction d with
  | zero =>
    intro c hc
    unfold FM_undo_27
    rw [if_pos (show (147 : Int32) ≤ nI c from nI_le (a := 147) (b := c) (by omega) (by omega))]
    obtain rfl : c = 147 := by omega
    show some (σ.1 9, _) = _
    rw [ea]
  | succ d ih =>
    intro c hc
    unfold FM_undo_27
    rw [if_neg (show ¬ (147 : Int32) ≤ nI c from nI_ge (a := c) (b := 147) (by omega) (by omega))]
    show gd (¬ ((147 * σ.1 9 + nI c : Int32) < 0 ∨ 3528 ≤ Int32.toNatClampNeg (147 * σ.1 9 + nI c))) (gd _ (FM_undo_27 (n + (d + 1)) (setR _ 5 (upd ((setR _ 5 _).2 5) (nI c).toNatClampNeg (σ.2 8 (Int32.toNatClampNeg (147 * σ.1 9 + nI c))))) (nI c + 1))) = _
    rw [ea, k147, gd_nI (show 147 * a + c < 3528 by omega) (by decide), gd_nI (show c < 147 by omega) (by decide), nI_clamp (by omega), nI_clamp (by omega), setR_setR, setR_get, ← nI_succ]
    have := cpy_step (σ.2 8) (σ.2 5) (147 * a) 0 c
    rw [Nat.zero_add] at this
    rw [this]
    exact ih (c + 1) (by omega)
theorem sim_undo : Sim_undo Rel := by
  intro k σP σL σG σR σT σC σA σK ω ι σ hk h
  have hm := Rel.mono _ _ _ _ _ _ _ _ _ _ _ _ h
  obtain ⟨n, q, hn, hq, e1, e2, e3, e4, hr⟩ := hm.2.2.2.2.1
  cases n with
  | zero =>
    refine ⟨-1000002, σL, σK, setF σ 0 0, ?_, ?_, hm⟩
    · unfold FP_undo
      rw [if_pos (show σK.1 2 = 0 from e1)]
    · unfold FM_undo
      show (if σ.1 9 = 0 then _ else _) = _
      rw [if_pos (show σ.1 9 = 0 from e2)]
  | succ n =>
    have nz : ¬ nI (n + 1) = 0 := nI_ne0 (by omega) (by omega)
    have h1 : σL.1 4 = 1 := e4.resolve_left (by omega)
    refine ⟨nI n, setR σL 3 (va_cpy (σK.2 ((q + 23) % 24)) (σL.2 3) 0 0 61), setF (setF σK 1 (nI ((q + 23) % 24))) 2 (nI n), setR (setF (setF σ 0 0) 9 (nI n)) 5 (va_cpy (σ.2 8) (σ.2 5) (147 * n) 0 147), ?_, ?_, ?_⟩
    · unfold FP_undo FK_takeBack
      rw [if_neg (by rw [e1]; exact nz), e3, mod24b q hq]
      show bd2 (gd (¬ ((nI ((q + 23) % 24) : Int32) < 0 ∨ 24 ≤ Int32.toNatClampNeg (nI ((q + 23) % 24)))) (some (setF (setF σK 1 (nI ((q + 23) % 24))) 2 (σK.1 2 - 1), setR (vOf σL 3) 0 (va_cpy (σK.2 (Int32.toNatClampNeg (nI ((q + 23) % 24)))) (σL.2 3) 0 0 61)))) _ = _
      rw [gd_nI (show (q + 23) % 24 < 24 by omega) (by decide), nI_clamp (by omega), e1, nI_pred]
      rfl
    · unfold FM_undo
      show (if σ.1 9 = 0 then _ else FM_undo_27 fuelN (setF (setF σ 0 0) 9 (σ.1 9 - 1)) 0) = _
      rw [e2, if_neg nz, nI_pred]
      have := undo27_loop (setF (setF σ 0 0) 9 (nI n)) (a := n) (by omega) rfl 4852 147 0 (by omega)
      rw [cpy_0, setR_same _ 5 _ rfl] at this
      exact this
    · refine h.kr (((SameM.F0 σ).trans (SameM.F9 _ _)).trans (SameM.R5 _ _)) rfl ?_ ?_ ?_
      · exact hm.1
      · have := hr n (by omega)
        rw [show (q + 24 - (n + 1) + n) % 24 = (q + 23) % 24 from by omega] at this
        refine this.congr (fun _ _ => rfl) (fun _ _ => rfl) (fun _ _ => rfl) (fun j hj => ?_) (fun j hj => ?_)
        · have := cpy_in (σK.2 ((q + 23) % 24)) (σL.2 3) (sp := 0) (dp := 0) hj
          rw [Nat.zero_add] at this
          exact this
        · have := cpy_in (σ.2 8) (σ.2 5) (sp := 147 * n) (dp := 0) hj
          rw [Nat.zero_add] at this
          exact this
      · refine ⟨n, (q + 23) % 24, by omega, by omega, rfl, rfl, rfl, Or.inr h1, fun i hi => ?_⟩
        have := hr i (by omega)
        rw [show (q + 24 - (n + 1) + i) % 24 = ((q + 23) % 24 + 24 - n + i) % 24 from by omega] at this
        exact this
def tkF (σX σO : MS) : MS := setF (setF (setF (setF (setR (setR (setR (setR σX 0 (va_cpy (σO.2 0) (σX.2 0) 0 0 64)) 1 (va_cpy (σO.2 1) (σX.2 1) 0 0 6)) 2 (va_cpy (σO.2 2) (σX.2 2) 0 0 12)) 3 (va_cpy (σO.2 3) (σX.2 3) 0 0 61)) 4 (σO.1 4)) 5 (σO.1 5)) 6 (σO.1 6)) 7 (σO.1 7)
theorem p_takeFrom (σX σO : MS) (h : σO.1 4 = 0 ∨ σO.1 4 = 1) : FL_takeFrom σX σO = some (tkF σX σO) := by
  unfold FL_takeFrom
  rw [gd_t (by decide)]
  show gd _ _ = _
  rw [gd_t (by decide)]
  show gd _ _ = _
  rw [gd_t (by decide)]
  show gd _ _ = _
  rw [gd_t (by decide)]
  show gd _ _ = _
  rw [gd_t h]
  rfl
theorem RReal.take {k : Nat} {σX σO : MS} {g g' : Nat → Int32} (h : RReal k (σO.1 4) (σO.1 5) (σO.1 6) (σO.1 7) (σO.2 0) (σO.2 1) (σO.2 2) (σO.2 3) g) (hg : ∀ j, j < 147 → g' j = g j) : RReal k ((tkF σX σO).1 4) ((tkF σX σO).1 5) ((tkF σX σO).1 6) ((tkF σX σO).1 7) ((tkF σX σO).2 0) ((tkF σX σO).2 1) ((tkF σX σO).2 2) ((tkF σX σO).2 3) g' := by
  have c : ∀ (s d : Nat → Int32) (n j : Nat), j < n → va_cpy s d 0 0 n j = s j := fun s d n j hj => by
    have := cpy_in s d (sp := 0) (dp := 0) hj
    rw [Nat.zero_add] at this
    exact this
  exact h.congr (fun j hj => c _ _ _ _ hj) (fun j hj => c _ _ _ _ hj) (fun j hj => c _ _ _ _ hj) (fun j hj => c _ _ _ _ hj) hg
theorem ix1 {x : Int32} (hc : 0 ≤ x ∧ x ≤ 1) : ∃ r : Nat, r < 2 ∧ x = nI r := by
  obtain ⟨r, hr, e⟩ := nI_of2 (M := 1) (n := 1) (by decide) (Int32.not_lt.mpr hc.1) hc.2
  exact ⟨r, by omega, e⟩
theorem image30_loop (σ : MS) {a : Nat} (ha : a < 2) (n : Nat) : ∀ (d c : Nat), c + d = 147 → FM_image_30 (n + d + 1) (setR σ 23 (va_cpy (σ.2 5) (σ.2 23) 0 (147 * a) c)) (nI a) (nI c) = some (1, setA (setR σ 23 (va_cpy (σ.2 5) (σ.2 23) 0 (147 * a) 147)) 22 a 1) := by
  intro d
  induction d with
  | zero =>
    intro c hc
    unfold FM_image_30
    rw [if_pos (show (147 : Int32) ≤ nI c from nI_le (a := 147) (b := c) (by omega) (by omega)), gd_nI ha (by decide), nI_clamp (by omega)]
    obtain rfl : c = 147 := by omega
    rfl
  | succ d ih =>
    intro c hc
    unfold FM_image_30
    rw [if_neg (show ¬ (147 : Int32) ≤ nI c from nI_ge (a := c) (b := 147) (by omega) (by omega)), k147, gd_nI (show c < 147 by omega) (by decide), gd_nI (show 147 * a + c < 294 by omega) (by decide), nI_clamp (by omega), nI_clamp (by omega)]
    show FM_image_30 (n + (d + 1)) (setR _ 23 (upd ((setR _ 23 _).2 23) (147 * a + c) (σ.2 5 c))) (nI a) (nI c + 1) = _
    rw [setR_setR, setR_get, ← nI_succ]
    have := cpy_step (σ.2 5) (σ.2 23) 0 (147 * a) c
    rw [Nat.zero_add] at this
    rw [this]
    exact ih (c + 1) (by omega)
theorem sim_image : Sim_image Rel := by
  intro k σP σL σG σR σT σC σA σK ω ι σ a1 hk h
  have hm := Rel.mono _ _ _ _ _ _ _ _ _ _ _ _ h
  obtain ⟨p1, hW, hT, ⟨et, hR⟩, hA, hI, hX⟩ := hm
  have hm := Rel.mono _ _ _ _ _ _ _ _ _ _ _ _ h
  by_cases hc : 0 ≤ a1 ∧ a1 ≤ 1
  · by_cases h0 : σL.1 4 = 0
    · refine ⟨-1000002, ι, setF σ 0 0, ?_, ?_, hm⟩
      · unfold FP_image
        rw [p_outside, if_pos hc, Option.bind_some, if_pos rfl, if_pos h0]
      · unfold FM_image
        show Option.bind (FM_in (Int32.toInt64 a1) 0 1) _ = _
        rw [show FM_in (Int32.toInt64 a1) 0 1 = _ from p_in a1 0 1, if_pos hc, Option.bind_some, if_neg one_ne_zero32]
        show (if σ.1 7 = 0 then _ else _) = _
        rw [if_pos (by rw [← et]; exact h0)]
    · have h1 : σL.1 4 = 1 := hR.1.resolve_left h0
      have h0' : ¬ σ.1 7 = 0 := by rw [← et]; exact h0
      obtain ⟨r, hr, rfl⟩ := ix1 hc
      refine ⟨1, va_up ι r (tkF (ι r) σL), setA (setR (setF σ 0 0) 23 (va_cpy (σ.2 5) (σ.2 23) 0 (147 * r) 147)) 22 r 1, ?_, ?_, ⟨p1, hW, hT, ⟨et, hR⟩, hA, ?_, hX⟩⟩
      · unfold FP_image
        rw [p_outside, if_pos hc, Option.bind_some, if_pos rfl, if_neg h0, gd_nI hr (by decide), nI_clamp (by omega), gd_t hr, p_takeFrom _ _ (Or.inr h1)]
        rfl
      · unfold FM_image
        show Option.bind (FM_in (Int32.toInt64 (nI r)) 0 1) _ = _
        rw [show FM_in (Int32.toInt64 (nI r)) 0 1 = _ from p_in (nI r) 0 1, if_pos hc, Option.bind_some, if_neg one_ne_zero32]
        show (if σ.1 7 = 0 then _ else _) = _
        rw [if_neg h0']
        have := image30_loop (setF σ 0 0) hr 4852 147 0 (by omega)
        rw [cpy_0, setR_same _ 23 _ rfl] at this
        exact this
      · intro i hi
        show (va_up ι r (tkF (ι r) σL) i).1 4 = upd (σ.2 22) r 1 i ∧ (upd (σ.2 22) r 1 i = 0 ∨ (upd (σ.2 22) r 1 i = 1 ∧ σL.1 4 = 1 ∧ RReal (k + 1) ((va_up ι r (tkF (ι r) σL) i).1 4) ((va_up ι r (tkF (ι r) σL) i).1 5) ((va_up ι r (tkF (ι r) σL) i).1 6) ((va_up ι r (tkF (ι r) σL) i).1 7) ((va_up ι r (tkF (ι r) σL) i).2 0) ((va_up ι r (tkF (ι r) σL) i).2 1) ((va_up ι r (tkF (ι r) σL) i).2 2) ((va_up ι r (tkF (ι r) σL) i).2 3) (fun j => va_cpy (σ.2 5) (σ.2 23) 0 (147 * r) 147 (147 * i + j))))
        by_cases hir : i = r
        · subst hir
          rw [va_up_self, pk_us]
          refine ⟨h1, Or.inr ⟨rfl, h1, hR.take (fun j hj => ?_)⟩⟩
          have := cpy_in (σ.2 5) (σ.2 23) (sp := 0) (dp := 147 * i) hj
          rw [Nat.zero_add] at this
          exact this
        · rw [va_up_ne _ _ hir, pk_un hir]
          obtain ⟨g1, g2⟩ := hI i hi
          refine ⟨g1, g2.imp id (fun ⟨y1, y2, y3⟩ => ⟨y1, y2, y3.congr (fun _ _ => rfl) (fun _ _ => rfl) (fun _ _ => rfl) (fun _ _ => rfl) (fun j hj => ?_)⟩)⟩
          rw [cpy_out _ _ (by omega)]
  · refine ⟨-1000001, ι, setF σ 0 0, ?_, ?_, hm⟩
    · unfold FP_image
      rw [p_outside, if_neg hc]
      rfl
    · unfold FM_image
      show Option.bind (FM_in (Int32.toInt64 a1) 0 1) _ = _
      rw [show FM_in (Int32.toInt64 a1) 0 1 = _ from p_in a1 0 1, if_neg hc]
      rfl
theorem restore32_loop (σ : MS) {a : Nat} (ha : a < 2) (n : Nat) : ∀ (d c : Nat), c + d = 147 → FM_restore_32 (n + d + 1) (setR σ 5 (va_cpy (σ.2 23) (σ.2 5) (147 * a) 0 c)) (nI a) (nI c) = some (1, setF (setR σ 5 (va_cpy (σ.2 23) (σ.2 5) (147 * a) 0 147)) 9 0) := by
  intro d
  induction d with
  | zero =>
    intro c hc
    unfold FM_restore_32
    rw [if_pos (show (147 : Int32) ≤ nI c from nI_le (a := 147) (b := c) (by omega) (by omega))]
    obtain rfl : c = 147 := by omega
    rfl
  | succ d ih =>
    intro c hc
    unfold FM_restore_32
    rw [if_neg (show ¬ (147 : Int32) ≤ nI c from nI_ge (a := c) (b := 147) (by omega) (by omega)), k147, gd_nI (show 147 * a + c < 294 by omega) (by decide), gd_nI (show c < 147 by omega) (by decide), nI_clamp (by omega), nI_clamp (by omega)]
    show FM_restore_32 (n + (d + 1)) (setR _ 5 (upd ((setR _ 5 _).2 5) c (σ.2 23 (147 * a + c)))) (nI a) (nI c + 1) = _
    rw [setR_setR, setR_get, ← nI_succ]
    have := cpy_step (σ.2 23) (σ.2 5) (147 * a) 0 c
    rw [Nat.zero_add] at this
    rw [this]
    exact ih (c + 1) (by omega)
theorem sim_restore : Sim_restore Rel := by
  intro k σP σL σG σR σT σC σA σK ω ι σ a1 hk h
  have hm := Rel.mono _ _ _ _ _ _ _ _ _ _ _ _ h
  by_cases hc : 0 ≤ a1 ∧ a1 ≤ 1
  · obtain ⟨r, hr, rfl⟩ := ix1 hc
    obtain ⟨g1, g2⟩ := hm.2.2.2.2.2.1 r hr
    rcases g2 with g2 | ⟨g2, g3, g4⟩
    · refine ⟨-1000002, σL, σK, setF σ 0 0, ?_, ?_, hm⟩
      · unfold FP_restore
        rw [p_outside, if_pos hc, Option.bind_some, if_pos rfl, gd_nI hr (by decide), nI_clamp (by omega), gd_t hr, if_pos (g1.trans g2)]
      · unfold FM_restore
        show Option.bind (FM_in (Int32.toInt64 (nI r)) 0 1) _ = _
        rw [show FM_in (Int32.toInt64 (nI r)) 0 1 = _ from p_in (nI r) 0 1, if_pos hc, Option.bind_some, if_neg one_ne_zero32, gd_nI hr (by decide), nI_clamp (by omega)]
        show (if σ.2 22 r = 0 then _ else _) = _
        rw [if_pos g2]
    · have t1 : (ι r).1 4 = 1 := g1.trans g2
      refine ⟨1, tkF σL (ι r), setF (setF σK 1 0) 2 0, setF (setR (setF σ 0 0) 5 (va_cpy (σ.2 23) (σ.2 5) (147 * r) 0 147)) 9 0, ?_, ?_, ?_⟩
      · unfold FP_restore
        rw [p_outside, if_pos hc, Option.bind_some, if_pos rfl, gd_nI hr (by decide), nI_clamp (by omega), gd_t hr, if_neg (by rw [t1]; decide), gd_cl hr (by decide), gd_t hr, p_takeFrom _ _ (Or.inr t1)]
        rfl
      · unfold FM_restore
        show Option.bind (FM_in (Int32.toInt64 (nI r)) 0 1) _ = _
        rw [show FM_in (Int32.toInt64 (nI r)) 0 1 = _ from p_in (nI r) 0 1, if_pos hc, Option.bind_some, if_neg one_ne_zero32, gd_nI hr (by decide), nI_clamp (by omega)]
        show (if σ.2 22 r = 0 then _ else _) = _
        rw [if_neg (by rw [g2]; decide)]
        have := restore32_loop (setF σ 0 0) hr 4852 147 0 (by omega)
        rw [cpy_0, setR_same _ 5 _ rfl] at this
        exact this
      · refine h.kr (((SameM.F0 σ).trans (SameM.R5 _ _)).trans (SameM.F9 _ _)) (t1.trans g3.symm) hm.1 ?_ ?_
        · refine g4.take (fun j hj => ?_)
          have := cpy_in (σ.2 23) (σ.2 5) (sp := 147 * r) (dp := 0) hj
          rw [Nat.zero_add] at this
          exact this
        · exact ⟨0, 0, by decide, by decide, rfl, rfl, rfl, Or.inl rfl, fun i hi => absurd hi (Nat.not_lt_zero i)⟩
  · refine ⟨-1000001, σL, σK, setF σ 0 0, ?_, ?_, hm⟩
    · unfold FP_restore
      rw [p_outside, if_neg hc]
      rfl
    · unfold FM_restore
      show Option.bind (FM_in (Int32.toInt64 a1) 0 1) _ = _
      rw [show FM_in (Int32.toInt64 a1) 0 1 = _ from p_in a1 0 1, if_neg hc]
      rfl
