/-! PURE: ask -/
def RT (n : Nat) (σA σ : MS) : Prop := n ≤ 16 ∧ σA.1 1 = nI n ∧ σ.1 25 = nI n ∧ ∀ j, j < n → σA.2 0 j = σ.2 24 j
def MF (a b : MS) : Prop := (∀ i, i ≠ 25 → b.1 i = a.1 i) ∧ (∀ i, i ≠ 24 → b.2 i = a.2 i)
def nA (σA : MS) (n : Nat) (x : Int32) : MS := setF (setA σA 0 n x) 1 (nI (n + 1))
def nM (σ : MS) (n : Nat) (x : Int32) : MS := setF (setA σ 24 n x) 25 (nI (n + 1))
def St (σ0 : MS) (j : Nat) (K A S : Int32) (n : Nat) (σA σ : MS) : Prop := RT n σA σ ∧ (σA.1 2 = nI j ∧ σA.1 3 = K ∧ σA.1 4 = A ∧ σA.1 5 = S) ∧ (FM_of σ (nI j) 0 = some K ∧ FM_of σ (nI j) 2 = some A ∧ FM_spanOf σ (nI j) = some S) ∧ MF σ0 σ
section ASK
variable {σ0 σA σ : MS} {j n : Nat} {K A S : Int32}
theorem St.note (h : St σ0 j K A S n σA σ) (hn : n < 16) (x : Int32) : FA_note σA x = some (nA σA n x) ∧ FM_began σ x = some (nM σ n x) ∧ St σ0 j K A S (n + 1) (nA σA n x) (nM σ n x) := by
  obtain ⟨⟨h1, h2, h3, h4⟩, h5, h6, h7⟩ := h
  refine ⟨?_, ?_, ⟨by omega, rfl, rfl, fun i hi => ?_⟩, h5, h6, fun i hi => ?_, fun i hi => ?_⟩
  · unfold FA_note
    rw [h2, if_neg (show ¬ (16 : Int32) ≤ nI n from nI_ge (a := n) (b := 16) hn (by decide)), gd_nI hn (by decide), nI_clamp (by omega)]
    show some (setF (setA σA 0 n x) 1 (σA.1 1 + 1)) = _
    rw [h2, ← nI_succ]
    rfl
  · unfold FM_began
    rw [h3, if_neg (show ¬ (16 : Int32) ≤ nI n from nI_ge (a := n) (b := 16) hn (by decide)), gd_nI hn (by decide), nI_clamp (by omega)]
    show some (setF (setA σ 24 n x) 25 (σ.1 25 + 1)) = _
    rw [h3, ← nI_succ]
    rfl
  · show upd (σA.2 0) n x i = upd (σ.2 24) n x i
    by_cases z : i = n
    · subst z; rw [pk_us, pk_us]
    · rw [pk_un z, pk_un z]; exact h4 i (by omega)
  · show va_up σ.1 25 _ i = _
    rw [va_up_ne _ _ hi]; exact h7.1 i hi
  · show va_up σ.2 24 _ i = _
    rw [va_up_ne _ _ hi]; exact h7.2 i hi
theorem FB {rc : MS → Int32 → Int32 → Option (Int32 × MS)} {s : MS} {b x : Int32} (hx : x ≤ 40) (hn : FA_note σA b = some s) : FA_begin_B rc σA b x = (if Int32.toInt b < 10 ∨ 24 < Int32.toInt b then (some (0, s)) else (if b = 10 then (some ((s.1 4), s)) else (if b = 11 then (bd2 (rc s 10 (x + 1)) fun (r23 : Int32) (σ24 : MS) => Option.bind (FA_bodyFor σ24 1) fun (r25 : Int32) => bd2 (rc σ24 r25 (x + 1)) fun (r26 : Int32) (σ27 : MS) => some ((r23 + r26), σ27)) else (if b = 12 then (bd2 (rc s 11 (x + 1)) fun (r21 : Int32) (σ22 : MS) => some ((-r21), σ22)) else (if b = 13 then (bd2 (rc s 10 (x + 1)) fun (r19 : Int32) (σ20 : MS) => some ((r19 - 100), σ20)) else (if b = 14 then (bd2 (rc s 11 (x + 1)) fun (r17 : Int32) (σ18 : MS) => some ((2 * r17), σ18)) else (if b = 15 then (some (0, s)) else (if b = 16 then (some (0, s)) else (if b = 17 then (some (0, s)) else (if b = 18 then (some (0, s)) else (if b = 19 then (some (0, s)) else (if b = 20 then (some ((s.1 2), s)) else (if b = 21 then (bd2 (rc s 20 (x + 1)) fun (r15 : Int32) (σ16 : MS) => some ((r15 + (σ16.1 5)), σ16)) else (if b = 22 then (bd2 (rc s 21 (x + 1)) fun (r13 : Int32) (σ14 : MS) => some ((r13 - 1000), σ14)) else (if b = 23 then (bd2 (rc s 20 (x + 1)) fun (r8 : Int32) (σ9 : MS) => Option.bind (FA_bodyFor σ9 0) fun (r10 : Int32) => bd2 (rc σ9 r10 (x + 1)) fun (r11 : Int32) (σ12 : MS) => some ((r8 - r11), σ12)) else (if b = 24 then (bd2 (rc s 22 (x + 1)) fun (r6 : Int32) (σ7 : MS) => some ((2 * r6), σ7)) else (none)))))))))))))))))  := by
  unfold FA_begin_B
  rw [if_pos hx, hn]
  rfl
theorem p40 {p : Nat} (h : p ≤ 40) : nI p ≤ 40 := nI_le (a := p) (b := 40) h (by decide)
theorem B10 (h : St σ0 j K A S n σA σ) (hn : n < 16) {p : Nat} (hp : p ≤ 40) (d : Nat) : FA_begin (d + 1) σA 10 (nI p) = some (A, nA σA n 10) ∧ FM_plainSize σ (nI j) = some (A, nM σ n 10) ∧ St σ0 j K A S (n + 1) (nA σA n 10) (nM σ n 10) := by
  obtain ⟨e1, e2, e3⟩ := h.note hn 10
  refine ⟨?_, ?_, e3⟩
  · show FA_begin_B (FA_begin d) σA 10 (nI p) = _
    rw [FB (p40 hp) e1, if_neg (by decide), if_pos rfl, e3.2.1.2.2.1]
  · unfold FM_plainSize
    rw [e2, Option.bind_some, e3.2.2.1.2.1]
    rfl
theorem B20 (h : St σ0 j K A S n σA σ) (hn : n < 16) {p : Nat} (hp : p ≤ 40) (d : Nat) : FA_begin (d + 1) σA 20 (nI p) = some (nI j, nA σA n 20) ∧ FM_began σ 20 = some (nM σ n 20) ∧ St σ0 j K A S (n + 1) (nA σA n 20) (nM σ n 20) := by
  obtain ⟨e1, e2, e3⟩ := h.note hn 20
  refine ⟨?_, e2, e3⟩
  show FA_begin_B (FA_begin d) σA 20 (nI p) = _
  rw [FB (p40 hp) e1, if_neg (by decide), if_neg (by decide), if_neg (by decide), if_neg (by decide), if_neg (by decide), if_neg (by decide), if_neg (by decide), if_neg (by decide), if_neg (by decide), if_neg (by decide), if_neg (by decide), if_pos rfl, e3.2.1.1]
theorem B21 (h : St σ0 j K A S n σA σ) (hn : n + 1 < 16) {p : Nat} (hp : p + 1 ≤ 40) (d : Nat) : FA_begin (d + 2) σA 21 (nI p) = some (nI j + S, nA (nA σA n 21) (n + 1) 20) ∧ FM_began σ 21 = some (nM σ n 21) ∧ FM_began (nM σ n 21) 20 = some (nM (nM σ n 21) (n + 1) 20) ∧ St σ0 j K A S (n + 2) (nA (nA σA n 21) (n + 1) 20) (nM (nM σ n 21) (n + 1) 20) := by
  obtain ⟨e1, e2, e3⟩ := h.note (by omega) 21
  obtain ⟨f1, f2, f3⟩ := B20 e3 hn hp d
  refine ⟨?_, e2, f2, f3⟩
  show FA_begin_B (FA_begin (d + 1)) σA 21 (nI p) = _
  rw [FB (p40 (by omega)) e1, if_neg (by decide), if_neg (by decide), if_neg (by decide), if_neg (by decide), if_neg (by decide), if_neg (by decide), if_neg (by decide), if_neg (by decide), if_neg (by decide), if_neg (by decide), if_neg (by decide), if_neg (by decide), if_pos rfl, ← nI_succ, f1]
  show some (nI j + (nA (nA σA n 21) (n + 1) 20).1 5, _) = _
  rw [f3.2.1.2.2.2]
theorem B22 (h : St σ0 j K A S n σA σ) (hn : n + 2 < 16) {p : Nat} (hp : p + 2 ≤ 40) (d : Nat) : FA_begin (d + 3) σA 22 (nI p) = some (nI j + S - 1000, nA (nA (nA σA n 22) (n + 1) 21) (n + 2) 20) := by
  obtain ⟨e1, e2, e3⟩ := h.note (by omega) 22
  obtain ⟨f1, f2, f3, f4⟩ := B21 e3 (by omega) (p := p + 1) (by omega) d
  show FA_begin_B (FA_begin (d + 2)) σA 22 (nI p) = _
  rw [FB (p40 (by omega)) e1, if_neg (by decide), if_neg (by decide), if_neg (by decide), if_neg (by decide), if_neg (by decide), if_neg (by decide), if_neg (by decide), if_neg (by decide), if_neg (by decide), if_neg (by decide), if_neg (by decide), if_neg (by decide), if_neg (by decide), if_pos rfl, ← nI_succ, f1]
  rfl
theorem B13 (h : St σ0 j K A S n σA σ) (hn : n + 1 < 16) {p : Nat} (hp : p + 1 ≤ 40) (d : Nat) : FA_begin (d + 2) σA 13 (nI p) = some (A - 100, nA (nA σA n 13) (n + 1) 10) ∧ FM_forgedSize σ (nI j) = some (A - 100, nM (nM σ n 13) (n + 1) 10) ∧ St σ0 j K A S (n + 2) (nA (nA σA n 13) (n + 1) 10) (nM (nM σ n 13) (n + 1) 10) := by
  obtain ⟨e1, e2, e3⟩ := h.note (by omega) 13
  obtain ⟨f1, f2, f3⟩ := B10 e3 hn hp d
  refine ⟨?_, ?_, f3⟩
  · show FA_begin_B (FA_begin (d + 1)) σA 13 (nI p) = _
    rw [FB (p40 (by omega)) e1, if_neg (by decide), if_neg (by decide), if_neg (by decide), if_neg (by decide), if_pos rfl, ← nI_succ, f1]
    rfl
  · unfold FM_forgedSize
    rw [e2, Option.bind_some, f2]
    rfl
end ASK
theorem body_free : ∀ (n : Nat) (σA : MS) (l2 : Nat) (l3 l4 : Int32), FA_bodyFor_22 n σA l2 l3 l4 = FA_bodyFor_22 n s0 l2 l3 l4 := by
  intro n
  induction n with
  | zero => intros; rfl
  | succ n ih =>
    intro σA l2 l3 l4
    have g : FA_bodyFor_49 σA l2 l3 = FA_bodyFor_49 s0 l2 l3 := rfl
    have i : FA_bodyFor_22 n σA = FA_bodyFor_22 n s0 := by
      funext a b c
      exact ih σA a b c
    unfold FA_bodyFor_22
    rw [g, i]
def zBo (w k : Nat) : Nat := if w = 0 then [10, 11, 12, 11, 14, 13].getD k 0 else [20, 21, 21, 22, 24, 23].getD k 0
theorem body_tab : ∀ k, k < 6 → FA_bodyFor_22 fuelN s0 1 (nI k) 0 = some (nI (zBo 0 k)) ∧ FA_bodyFor_22 fuelN s0 2 (nI k) 0 = some (nI (zBo 1 k)) := by decide +kernel
theorem p_body {σA : MS} {k : Nat} (hk : k < 6) (e : σA.1 3 = nI k) : FA_bodyFor σA 0 = some (nI (zBo 0 k)) ∧ FA_bodyFor σA 1 = some (nI (zBo 1 k)) := by
  obtain ⟨t1, t2⟩ := body_tab k hk
  constructor
  · unfold FA_bodyFor FA_bodyFor_13
    rw [if_pos rfl, e]
    show FA_bodyFor_22 fuelN σA 1 (nI k) 0 = _
    rw [body_free, t1]
  · unfold FA_bodyFor FA_bodyFor_13
    rw [if_neg one_ne_zero32, e]
    show FA_bodyFor_22 fuelN σA 2 (nI k) 0 = _
    rw [body_free, t2]
section ASK2
variable {σ0 σA σ : MS} {j n : Nat} {A S : Int32}
theorem p_mark {k : Nat} (hk0 : 1 ≤ k) (hk : k < 6) (h : St σ0 j (nI k) A S n σA σ) (hn : n + 4 ≤ 16) {p : Nat} (hp : p + 3 ≤ 40) (d : Nat) : ∃ (v : Int32) (σA' σ' : MS) (n' : Nat), FA_begin (d + 4) σA (nI (zBo 1 k)) (nI p) = some (v, σA') ∧ FM_markOf σ (nI j) = some (v, σ') ∧ St σ0 j (nI k) A S n' σA' σ' := by
  have o0 := h.2.2.1.1
  rcases (show k = 1 ∨ k = 2 ∨ k = 3 ∨ k = 4 ∨ k = 5 by omega) with rfl | rfl | rfl | rfl | rfl
  · obtain ⟨f1, f2, f3, f4⟩ := B21 h (by omega) (p := p) (by omega) (d + 2)
    refine ⟨_, _, _, _, f1, ?_, f4⟩
    unfold FM_markOf FM_markOf_43 FM_markOf_54 FM_markOf_85
    rw [o0, Option.bind_some, if_neg (by decide), if_neg (by decide), if_pos (by decide), f2, Option.bind_some, f3, Option.bind_some, f4.2.2.1.2.2, Option.bind_some, if_pos (by decide)]
    simp only [nm]
    rw [if_neg (by decide), Int32.sub_zero]
  · obtain ⟨f1, f2, f3, f4⟩ := B21 h (by omega) (p := p) (by omega) (d + 2)
    refine ⟨_, _, _, _, f1, ?_, f4⟩
    unfold FM_markOf FM_markOf_43 FM_markOf_54 FM_markOf_85
    rw [o0, Option.bind_some, if_neg (by decide), if_neg (by decide), if_pos (by decide), f2, Option.bind_some, f3, Option.bind_some, f4.2.2.1.2.2, Option.bind_some, if_pos (by decide)]
    simp only [nm]
    rw [if_neg (by decide), Int32.sub_zero]
  · have f0 := B22 h (by omega) (p := p) (by omega) (d + 1)
    obtain ⟨e1, e2, e3⟩ := h.note (by omega) 22
    obtain ⟨f1, f2, f3, f4⟩ := B21 e3 (by omega) (p := p) (by omega) d
    refine ⟨_, _, _, _, f0, ?_, f4⟩
    unfold FM_markOf FM_markOf_43 FM_markOf_54 FM_markOf_85
    rw [o0, Option.bind_some, if_neg (by decide), if_neg (by decide), if_neg (by decide), e2, Option.bind_some, f2, Option.bind_some, f3, Option.bind_some, f4.2.2.1.2.2, Option.bind_some, if_neg (by decide)]
    simp only [nm]
    rw [if_neg (by decide)]
  · obtain ⟨g1, g2, g3⟩ := h.note (by omega) 24
    have f0 := B22 g3 (by omega) (p := p + 1) (by omega) d
    obtain ⟨e1, e2, e3⟩ := g3.note (by omega) 22
    obtain ⟨f1, f2, f3, f4⟩ := B21 e3 (by omega) (p := p) (by omega) d
    refine ⟨2 * (nI j + S - 1000), _, _, _, ?_, ?_, f4⟩
    · show FA_begin_B (FA_begin (d + 3)) σA 24 (nI p) = _
      rw [FB (p40 (by omega)) g1, if_neg (by decide), if_neg (by decide), if_neg (by decide), if_neg (by decide), if_neg (by decide), if_neg (by decide), if_neg (by decide), if_neg (by decide), if_neg (by decide), if_neg (by decide), if_neg (by decide), if_neg (by decide), if_neg (by decide), if_neg (by decide), if_neg (by decide), if_pos rfl, ← nI_succ, f0]
      rfl
    · unfold FM_markOf FM_markOf_43 FM_markOf_54 FM_markOf_85
      rw [o0, Option.bind_some, if_neg (by decide), if_pos (by decide), g2, Option.bind_some, if_neg (by decide), e2, Option.bind_some, f2, Option.bind_some, f3, Option.bind_some, f4.2.2.1.2.2, Option.bind_some, if_neg (by decide)]
      simp only [nm]
      rw [if_pos (by decide)]
  · obtain ⟨g1, g2, g3⟩ := h.note (by omega) 23
    obtain ⟨e1, e2, e3⟩ := B20 g3 (by omega) (p := p + 1) (by omega) (d + 2)
    obtain ⟨f1, f2, f3⟩ := B13 e3 (by omega) (p := p + 1) (by omega) (d + 1)
    refine ⟨nI j - (A - 100), _, _, _, ?_, ?_, f3⟩
    · show FA_begin_B (FA_begin (d + 3)) σA 23 (nI p) = _
      rw [FB (p40 (by omega)) g1, if_neg (by decide), if_neg (by decide), if_neg (by decide), if_neg (by decide), if_neg (by decide), if_neg (by decide), if_neg (by decide), if_neg (by decide), if_neg (by decide), if_neg (by decide), if_neg (by decide), if_neg (by decide), if_neg (by decide), if_neg (by decide), if_pos rfl, ← nI_succ, e1]
      show Option.bind (FA_bodyFor (nA (nA σA n 23) (n + 1) 20) 0) _ = _
      rw [(p_body (by decide) e3.2.1.2.1).1, Option.bind_some, show nI (zBo 0 5) = 13 from by decide, f1]
      rfl
    · unfold FM_markOf
      rw [o0, Option.bind_some, if_pos (by decide), g2, Option.bind_some, e2, Option.bind_some, f2]
      rfl
theorem p_11 {k : Nat} (hk0 : 1 ≤ k) (hk : k < 6) (h : St σ0 j (nI k) A S n σA σ) (hn : n + 6 ≤ 16) {p : Nat} (hp : p + 4 ≤ 40) (d : Nat) (l2 : Int32) : ∃ (v : Int32) (σA' σ' : MS) (n' : Nat), FA_begin (d + 5) σA 11 (nI p) = some (v, σA') ∧ FM_sizeOf_44 σ (nI j) l2 = (if l2 = 2 then some (-v, σ') else if l2 = 4 then some (2 * v, σ') else some (v, σ')) ∧ St σ0 j (nI k) A S n' σA' σ' := by
  obtain ⟨g1, g2, g3⟩ := h.note (by omega) 11
  obtain ⟨e1, e2, e3⟩ := B10 g3 (by omega) (p := p + 1) (by omega) (d + 3)
  obtain ⟨v, σA', σ', n', f1, f2, f3⟩ := p_mark hk0 hk e3 (by omega) (p := p + 1) (by omega) d
  refine ⟨A + v, σA', σ', n', ?_, ?_, f3⟩
  · show FA_begin_B (FA_begin (d + 4)) σA 11 (nI p) = _
    rw [FB (p40 (by omega)) g1, if_neg (by decide), if_neg (by decide), if_pos rfl, ← nI_succ, e1]
    show Option.bind (FA_bodyFor (nA (nA σA n 11) (n + 1) 10) 1) _ = _
    rw [(p_body hk e3.2.1.2.1).2, Option.bind_some, f1]
    rfl
  · unfold FM_sizeOf_44
    rw [g2, Option.bind_some, e2, bd2_s, f2]
    rfl
theorem p_size {k : Nat} (hk0 : 1 ≤ k) (hk : k < 6) (h : St σ0 j (nI k) A S n σA σ) (hn : n + 7 ≤ 16) {p : Nat} (hp : p + 5 ≤ 40) (d : Nat) : ∃ (v : Int32) (σA' σ' : MS) (n' : Nat), FA_begin (d + 6) σA (nI (zBo 0 k)) (nI p) = some (v, σA') ∧ FM_sizeOf σ (nI j) = some (v, σ') ∧ St σ0 j (nI k) A S n' σA' σ' := by
  have o0 := h.2.2.1.1
  have hkk := hk
  rcases (show k = 1 ∨ k = 2 ∨ k = 3 ∨ k = 4 ∨ k = 5 by omega) with rfl | rfl | rfl | rfl | rfl
  · obtain ⟨v, σA', σ', n', f1, f2, f3⟩ := p_11 hk0 hk h (by omega) (p := p) (by omega) (d + 1) (nI 1)
    refine ⟨v, σA', σ', n', f1, ?_, f3⟩
    unfold FM_sizeOf
    rw [o0, Option.bind_some, if_neg (by decide), if_neg (by decide), if_neg (by decide), f2, if_neg (by decide), if_neg (by decide)]
  · obtain ⟨g1, g2, g3⟩ := h.note (by omega) 12
    obtain ⟨v, σA', σ', n', f1, f2, f3⟩ := p_11 hk0 hk g3 (by omega) (p := p + 1) (by omega) d (nI 2)
    refine ⟨-v, σA', σ', n', ?_, ?_, f3⟩
    · show FA_begin_B (FA_begin (d + 5)) σA 12 (nI p) = _
      rw [FB (p40 (by omega)) g1, if_neg (by decide), if_neg (by decide), if_neg (by decide), if_pos rfl, ← nI_succ, f1]
      rfl
    · unfold FM_sizeOf FM_sizeOf_28 FM_sizeOf_41
      rw [o0, Option.bind_some, if_neg (by decide), if_pos (by decide), if_pos (by decide), g2, Option.bind_some, f2, if_pos (by decide)]
  · obtain ⟨v, σA', σ', n', f1, f2, f3⟩ := p_11 hk0 hk h (by omega) (p := p) (by omega) (d + 1) (nI 3)
    refine ⟨v, σA', σ', n', f1, ?_, f3⟩
    unfold FM_sizeOf
    rw [o0, Option.bind_some, if_neg (by decide), if_neg (by decide), if_neg (by decide), f2, if_neg (by decide), if_neg (by decide)]
  · obtain ⟨g1, g2, g3⟩ := h.note (by omega) 14
    obtain ⟨v, σA', σ', n', f1, f2, f3⟩ := p_11 hk0 hk g3 (by omega) (p := p + 1) (by omega) d (nI 4)
    refine ⟨2 * v, σA', σ', n', ?_, ?_, f3⟩
    · show FA_begin_B (FA_begin (d + 5)) σA 14 (nI p) = _
      rw [FB (p40 (by omega)) g1, if_neg (by decide), if_neg (by decide), if_neg (by decide), if_neg (by decide), if_neg (by decide), if_pos rfl, ← nI_succ, f1]
      rfl
    · unfold FM_sizeOf FM_sizeOf_28 FM_sizeOf_41
      rw [o0, Option.bind_some, if_neg (by decide), if_neg (by decide), if_pos (by decide), if_neg (by decide), g2, Option.bind_some, f2, if_neg (by decide), if_pos (by decide)]
  · obtain ⟨f1, f2, f3⟩ := B13 h (by omega) (p := p) (by omega) (d + 4)
    refine ⟨_, _, _, _, f1, ?_, f3⟩
    unfold FM_sizeOf
    rw [o0, Option.bind_some, if_pos (by decide), f2]
    rfl
end ASK2
theorem Rel.tr {k : Nat} {σP σL σG σR σT σC σA σA' σK : MS} {ω ι : Nat → MS} {σ σ' : MS} (h : Rel k σP σL σG σR σT σC σA σK ω ι σ) (hF : ∀ i, i ≠ 0 → i ≠ 25 → σ'.1 i = σ.1 i) (hA : ∀ i, i ≠ 24 → σ'.2 i = σ.2 i) (hT : RTrace σA' (σ'.1 25) (σ'.2 24)) : Rel (k + 1) σP σL σG σR σT σC σA' σK ω ι σ' := by
  obtain ⟨⟨h1, h2⟩, h3, h9, ⟨h4, h5⟩, h6, h7, -⟩ := Rel.mono _ _ _ _ _ _ _ _ _ _ _ _ h
  refine ⟨⟨?_, ?_⟩, ?_, ?_, ⟨?_, ?_⟩, ?_, ?_, hT⟩
  · rw [hF 1 (by decide) (by decide)]; exact h1
  · rw [hF 12 (by decide) (by decide)]; exact h2
  · rw [hA 2 (by decide), hA 3 (by decide), hA 4 (by decide)]; exact h3
  · rw [hF 11 (by decide) (by decide), hA 10 (by decide)]; exact h9
  · rw [hF 7 (by decide) (by decide)]; exact h4
  · rw [hA 5 (by decide)]; exact h5
  · rw [hF 9 (by decide) (by decide), hA 8 (by decide)]; exact h6
  · rw [hA 22 (by decide), hA 23 (by decide)]; exact h7
theorem sim_ask : Sim_ask Rel := by
  intro k σP σL σG σR σT σC σA σK ω ι σ a1 a2 hk h
  obtain ⟨ec, hco⟩ := h.coin
  have hm := Rel.mono _ _ _ _ _ _ _ _ _ _ _ _ h
  have hR := h.2.2.2.1.2
  by_cases hc : 0 ≤ a1 ∧ a1 ≤ σL.1 7 - 1
  · have M1 : FM_isCoin (setF σ 0 0) a1 = some 1 := by
      rw [p_isCoin, if_pos (by show 0 ≤ a1 ∧ a1 ≤ σ.2 5 3 - 1; rw [ec]; exact hc)]
    by_cases hd : 0 ≤ a2 ∧ a2 ≤ 1
    · obtain ⟨j, hj, rfl, hl⟩ := hco hc
      obtain ⟨q, t, C⟩ := RReal.cn (σ := setF σ 0 0) hR hj hl
      obtain ⟨-, ⟨-, ab1, -⟩, ⟨o0, o1, o2, o3, o4, o5⟩, ⟨-, -, ls, ms⟩, -, -, hk5, -⟩ := C
      obtain ⟨kk, hkk, ek⟩ := nI_of2 (x := σL.2 2 j) (M := 5) (n := 5) (by decide) (fun z => by
        have := hk5.1
        rw [Int32.le_iff_toInt_le] at this
        rw [Int32.lt_iff_toInt_lt] at z
        have e1 : (1 : Int32).toInt = 1 := by decide
        have e2 : (0 : Int32).toInt = 0 := by decide
        omega) hk5.2
      have hk1 : 1 ≤ kk := by
        have := hk5.1
        rw [ek] at this
        exact (nI_leI (a := 1) (by decide) (by omega)).mp this
      have S0 : St (setF (setF σ 0 0) 25 0) j (nI kk) (σL.2 3 (5 * j + 1)) (spanV (σL.2 2 j) (σL.1 5)) 0 (setF (setF (setF (setF (setF σA 1 0) 2 (nI j)) 3 (nI kk)) 4 (σL.2 3 (5 * j + 1))) 5 (spanV (σL.2 2 j) (σL.1 5))) (setF (setF σ 0 0) 25 0) :=
        ⟨⟨by omega, rfl, rfl, fun i hi => absurd hi (Nat.not_lt_zero i)⟩, ⟨rfl, rfl, rfl, rfl⟩, ⟨by rw [← ek]; exact o0, o2, ms⟩, fun _ _ => rfl, fun _ _ => rfl⟩
      obtain ⟨b1, b2⟩ := p_body (by omega) S0.2.1.2.1
      have P0 : ∀ x, FP_ask σL σA (nI j) x = (Option.bind (FP_outside x 0 1) fun (r3 : Int32) => if r3 = 0 then (Option.bind (FA_bodyFor (setF (setF (setF (setF (setF σA 1 0) 2 (nI j)) 3 (nI kk)) 4 (σL.2 3 (5 * j + 1))) 5 (spanV (σL.2 2 j) (σL.1 5))) x) fun r9 => bd2 (FA_begin 12 (setF (setF (setF (setF (setF σA 1 0) 2 (nI j)) 3 (nI kk)) 4 (σL.2 3 (5 * j + 1))) 5 (spanV (σL.2 2 j) (σL.1 5))) r9 0) fun r10 s11 => some (r10, s11)) else some (-1000001, σA)) := by
        intro x
        unfold FP_ask FA_answer
        rw [p_noCoin, if_pos hc, Option.bind_some, if_pos rfl]
        simp only [nm]
        rw [gd_nI hj (by decide), nI_clamp (by omega), ek, ab1, ls, ek]
        cases FP_outside x 0 1 with
        | none => rfl
        | some r =>
          simp only [Option.bind_some]
          by_cases z : r = 0
          · rw [if_pos z, if_pos z, bd2_id]
          · rw [if_neg z, if_neg z]
      rcases (show a2 = 0 ∨ a2 = 1 by
        obtain ⟨r, hr, rfl⟩ := ix1 hd
        rcases (show r = 0 ∨ r = 1 by omega) with rfl | rfl
        · exact Or.inl rfl
        · exact Or.inr rfl) with rfl | rfl
      · obtain ⟨v, σA', σ', n', f1, f2, f3⟩ := p_size hk1 (by omega) S0 (by omega) (p := 0) (by omega) 6
        refine ⟨v, σA', σ', ?_, ?_, h.tr (fun i h0 h25 => ?_) (fun i h24 => ?_) ?_⟩
        · rw [P0, p_outside, if_pos hd, Option.bind_some, if_pos rfl, b1, Option.bind_some, show FA_begin 12 _ (nI (zBo 0 kk)) 0 = _ from f1]
          rfl
        · unfold FM_ask
          show Option.bind (FM_isCoin (setF σ 0 0) (nI j)) _ = _
          rw [M1, Option.bind_some, if_neg one_ne_zero32, show FM_in (Int32.toInt64 0) 0 1 = _ from p_in 0 0 1, if_pos hd, Option.bind_some, if_neg one_ne_zero32, nm_s, if_pos rfl, f2]
          rfl
        · rw [f3.2.2.2.1 i h25]
          show va_up (va_up σ.1 0 0) 25 0 i = _
          rw [va_up_ne _ _ h25, va_up_ne _ _ h0]
        · rw [f3.2.2.2.2 i h24]
          rfl
        · obtain ⟨g1, g2, g3, g4⟩ := f3.1
          rw [g3]
          exact ⟨g2, nI_pos' (by omega), nI_le (a := n') (b := 16) g1 (by decide), fun i hi hl => g4 i ((nI_ltI (by omega) (by omega)).mp hl)⟩
      · obtain ⟨v, σA', σ', n', f1, f2, f3⟩ := p_mark hk1 (by omega) S0 (by omega) (p := 0) (by omega) 8
        refine ⟨v, σA', σ', ?_, ?_, h.tr (fun i h0 h25 => ?_) (fun i h24 => ?_) ?_⟩
        · rw [P0, p_outside, if_pos hd, Option.bind_some, if_pos rfl, b2, Option.bind_some, show FA_begin 12 _ (nI (zBo 1 kk)) 0 = _ from f1]
          rfl
        · unfold FM_ask
          show Option.bind (FM_isCoin (setF σ 0 0) (nI j)) _ = _
          rw [M1, Option.bind_some, if_neg one_ne_zero32, show FM_in (Int32.toInt64 1) 0 1 = _ from p_in 1 0 1, if_pos hd, Option.bind_some, if_neg one_ne_zero32, nm_s, if_neg one_ne_zero32, f2]
          rfl
        · rw [f3.2.2.2.1 i h25]
          show va_up (va_up σ.1 0 0) 25 0 i = _
          rw [va_up_ne _ _ h25, va_up_ne _ _ h0]
        · rw [f3.2.2.2.2 i h24]
          rfl
        · obtain ⟨g1, g2, g3, g4⟩ := f3.1
          rw [g3]
          exact ⟨g2, nI_pos' (by omega), nI_le (a := n') (b := 16) g1 (by decide), fun i hi hl => g4 i ((nI_ltI (by omega) (by omega)).mp hl)⟩
    · refine ⟨-1000001, σA, setF σ 0 0, ?_, ?_, hm⟩
      · unfold FP_ask
        rw [p_noCoin, if_pos hc, Option.bind_some, if_pos rfl, p_outside, if_neg hd]
        rfl
      · unfold FM_ask
        show Option.bind (FM_isCoin (setF σ 0 0) a1) _ = _
        rw [M1, Option.bind_some, if_neg one_ne_zero32, show FM_in (Int32.toInt64 a2) 0 1 = _ from p_in a2 0 1, if_neg hd]
        rfl
  · refine ⟨-1000001, σA, setF σ 0 0, ?_, ?_, hm⟩
    · unfold FP_ask
      rw [p_noCoin, if_neg hc]
      rfl
    · unfold FM_ask
      show Option.bind (FM_isCoin (setF σ 0 0) a1) _ = _
      rw [p_isCoin, if_neg (by show ¬ (0 ≤ a1 ∧ a1 ≤ σ.2 5 3 - 1); rw [ec]; exact hc)]
      rfl
