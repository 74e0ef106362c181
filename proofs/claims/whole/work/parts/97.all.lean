/-! PURE: ask -/
def RT (n : Nat) (σA σ : MS) : Prop := n ≤ 16 ∧ σA.1 1 = nI n ∧ σ.1 25 = nI n ∧ ∀ j, j < n → σA.2 0 j = σ.2 24 j
def MF (a b : MS) : Prop := (∀ i, i ≠ 25 → b.1 i = a.1 i) ∧ (∀ i, i ≠ 24 → b.2 i = a.2 i)
def nA (σA : MS) (n : Nat) (x : Int32) : MS := setF (setA σA 0 n x) 1 (nI (n + 1))
def nM (σ : MS) (n : Nat) (x : Int32) : MS := setF (setA σ 24 n x) 25 (nI (n + 1))
def St (σ0 : MS) (j : Nat) (K A S : Int32) (n : Nat) (σA σ : MS) : Prop := RT n σA σ ∧ (σA.1 2 = nI j ∧ σA.1 3 = K ∧ σA.1 4 = A ∧ σA.1 5 = S) ∧ (FM_of σ (nI j) 0 = some K ∧ FM_of σ (nI j) 2 = some A ∧ FM_spanOf σ (nI j) = some S) ∧ MF σ0 σ
section ASK
variable {σ0 σA σ : MS} {j n : Nat} {K A S : Int32}
theorem St.note (h : St σ0 j K A S n σA σ) (hn : n < 16) (x : Int32) : FA_note σA x = some (nA σA n x) ∧ FM_began σ x = some (nM σ n x) ∧ St σ0 j K A S (n + 1) (nA σA n x) (nM σ n x) := by
  obtain ⟨⟨h1, h2, h3, h4⟩, h5, h6, h7⟩ := h
  refine ⟨?_, ?_, ⟨by omega, rfl, rfl, fun i hi => ?_⟩, h5, h6, fun i hi => ?_, fun i hi => ?_⟩
  · unfold FA_note
    rw [h2, if_neg (show ¬ (16 : Int32) ≤ nI n from nI_ge (a := n) (b := 16) hn (by decide)), gd_nI hn (by decide), nI_clamp (by omega)]
    show some (setF (setA σA 0 n x) 1 (σA.1 1 + 1)) = _
    rw [h2, ← nI_succ]
    rfl
  · unfold FM_began
    rw [h3, if_neg (show ¬ (16 : Int32) ≤ nI n from nI_ge (a := n) (b := 16) hn (by decide)), gd_nI hn (by decide), nI_clamp (by omega)]
    show some (setF (setA σ 24 n x) 25 (σ.1 25 + 1)) = _
    rw [h3, ← nI_succ]
    rfl
  · show upd (σA.2 0) n x i = upd (σ.2 24) n x i
    by_cases z : i = n
    · subst z; rw [pk_us, pk_us]
    · rw [pk_un z, pk_un z]; exact h4 i (by omega)
  · show va_up σ.1 25 _ i = _
    rw [va_up_ne _ _ hi]; exact h7.1 i hi
  · show va_up σ.2 24 _ i = _
    rw [va_up_ne _ _ hi]; exact h7.2 i hi
theorem FB {rc : MS → Int32 → Int32 → Option (Int32 × MS)} {s : MS} {b x : Int32} (hx : x ≤ 40) (hn : FA_note σA b = some s) : FA_begin_B rc σA b x = (if Int32.toInt b < 10 ∨ 24 < Int32.toInt b then (some (0, s)) else (if b = 10 then (some ((s.1 4), s)) else (if b = 11 then (bd2 (rc s 10 (x + 1)) fun (r23 : Int32) (σ24 : MS) => Option.bind (FA_bodyFor σ24 1) fun (r25 : Int32) => bd2 (rc σ24 r25 (x + 1)) fun (r26 : Int32) (σ27 : MS) => some ((r23 + r26), σ27)) else (if b = 12 then (bd2 (rc s 11 (x + 1)) fun (r21 : Int32) (σ22 : MS) => some ((-r21), σ22)) else (if b = 13 then (bd2 (rc s 10 (x + 1)) fun (r19 : Int32) (σ20 : MS) => some ((r19 - 100), σ20)) else (if b = 14 then (bd2 (rc s 11 (x + 1)) fun (r17 : Int32) (σ18 : MS) => some ((2 * r17), σ18)) else (if b = 15 then (some (0, s)) else (if b = 16 then (some (0, s)) else (if b = 17 then (some (0, s)) else (if b = 18 then (some (0, s)) else (if b = 19 then (some (0, s)) else (if b = 20 then (some ((s.1 2), s)) else (if b = 21 then (bd2 (rc s 20 (x + 1)) fun (r15 : Int32) (σ16 : MS) => some ((r15 + (σ16.1 5)), σ16)) else (if b = 22 then (bd2 (rc s 21 (x + 1)) fun (r13 : Int32) (σ14 : MS) => some ((r13 - 1000), σ14)) else (if b = 23 then (bd2 (rc s 20 (x + 1)) fun (r8 : Int32) (σ9 : MS) => Option.bind (FA_bodyFor σ9 0) fun (r10 : Int32) => bd2 (rc σ9 r10 (x + 1)) fun (r11 : Int32) (σ12 : MS) => some ((r8 - r11), σ12)) else (if b = 24 then (bd2 (rc s 22 (x + 1)) fun (r6 : Int32) (σ7 : MS) => some ((2 * r6), σ7)) else (none)))))))))))))))))  := by
  unfold FA_begin_B
  rw [if_pos hx, hn]
  rfl
theorem p40 {p : Nat} (h : p ≤ 40) : nI p ≤ 40 := nI_le (a := p) (b := 40) h (by decide)
theorem B10 (h : St σ0 j K A S n σA σ) (hn : n < 16) {p : Nat} (hp : p ≤ 40) (d : Nat) : FA_begin (d + 1) σA 10 (nI p) = some (A, nA σA n 10) ∧ FM_plainSize σ (nI j) = some (A, nM σ n 10) ∧ St σ0 j K A S (n + 1) (nA σA n 10) (nM σ n 10) := by
  obtain ⟨e1, e2, e3⟩ := h.note hn 10
  refine ⟨?_, ?_, e3⟩
  · show FA_begin_B (FA_begin d) σA 10 (nI p) = _
    rw [FB (p40 hp) e1, if_neg (by decide), if_pos rfl, e3.2.1.2.2.1]
  · unfold FM_plainSize
    rw [e2, Option.bind_some, e3.2.2.1.2.1]
    rfl
theorem B20 (h : St σ0 j K A S n σA σ) (hn : n < 16) {p : Nat} (hp : p ≤ 40) (d : Nat) : FA_begin (d + 1) σA 20 (nI p) = some (nI j, nA σA n 20) ∧ FM_began σ 20 = some (nM σ n 20) ∧ St σ0 j K A S (n + 1) (nA σA n 20) (nM σ n 20) := by
  obtain ⟨e1, e2, e3⟩ := h.note hn 20
  refine ⟨?_, e2, e3⟩
  show FA_begin_B (FA_begin d) σA 20 (nI p) = _
  rw [FB (p40 hp) e1, if_neg (by decide), if_neg (by decide), if_neg (by decide), if_neg (by decide), if_neg (by decide), if_neg (by decide), if_neg (by decide), if_neg (by decide), if_neg (by decide), if_neg (by decide), if_neg (by decide), if_pos rfl, e3.2.1.1]
theorem B21 (h : St σ0 j K A S n σA σ) (hn : n + 1 < 16) {p : Nat} (hp : p + 1 ≤ 40) (d : Nat) : FA_begin (d + 2) σA 21 (nI p) = some (nI j + S, nA (nA σA n 21) (n + 1) 20) ∧ FM_began σ 21 = some (nM σ n 21) ∧ FM_began (nM σ n 21) 20 = some (nM (nM σ n 21) (n + 1) 20) ∧ St σ0 j K A S (n + 2) (nA (nA σA n 21) (n + 1) 20) (nM (nM σ n 21) (n + 1) 20) := by
  obtain ⟨e1, e2, e3⟩ := h.note (by omega) 21
  obtain ⟨f1, f2, f3⟩ := B20 e3 hn hp d
  refine ⟨?_, e2, f2, f3⟩
  show FA_begin_B (FA_begin (d + 1)) σA 21 (nI p) = _
  rw [FB (p40 (by omega)) e1, if_neg (by decide), if_neg (by decide), if_neg (by decide), if_neg (by decide), if_neg (by decide), if_neg (by decide), if_neg (by decide), if_neg (by decide), if_neg (by decide), if_neg (by decide), if_neg (by decide), if_neg (by decide), if_pos rfl, ← nI_succ, f1]
  show some (nI j + (nA (nA σA n 21) (n + 1) 20).1 5, _) = _
  rw [f3.2.1.2.2.2]
theorem B22 (h : St σ0 j K A S n σA σ) (hn : n + 2 < 16) {p : Nat} (hp : p + 2 ≤ 40) (d : Nat) : FA_begin (d + 3) σA 22 (nI p) = some (nI j + S - 1000, nA (nA (nA σA n 22) (n + 1) 21) (n + 2) 20) := by
  obtain ⟨e1, e2, e3⟩ := h.note (by omega) 22
  obtain ⟨f1, f2, f3, f4⟩ := B21 e3 (by omega) (p := p + 1) (by omega) d
  show FA_begin_B (FA_begin (d + 2)) σA 22 (nI p) = _
  rw [FB (p40 (by omega)) e1, if_neg (by decide), if_neg (by decide), if_neg (by decide), if_neg (by decide), if_neg (by decide), if_neg (by decide), if_neg (by decide), if_neg (by decide), if_neg (by decide), if_neg (by decide), if_neg (by decide), if_neg (by decide), if_neg (by decide), if_pos rfl, ← nI_succ, f1]
  rfl
theorem B13 (h : St σ0 j K A S n σA σ) (hn : n + 1 < 16) {p : Nat} (hp : p + 1 ≤ 40) (d : Nat) : FA_begin (d + 2) σA 13 (nI p) = some (A - 100, nA (nA σA n 13) (n + 1) 10) ∧ FM_forgedSize σ (nI j) = some (A - 100, nM (nM σ n 13) (n + 1) 10) ∧ St σ0 j K A S (n + 2) (nA (nA σA n 13) (n + 1) 10) (nM (nM σ n 13) (n + 1) 10) := by
  obtain ⟨e1, e2, e3⟩ := h.note (by omega) 13
  obtain ⟨f1, f2, f3⟩ := B10 e3 hn hp d
  refine ⟨?_, ?_, f3⟩
  · show FA_begin_B (FA_begin (d + 1)) σA 13 (nI p) = _
    rw [FB (p40 (by omega)) e1, if_neg (by decide), if_neg (by decide), if_neg (by decide), if_neg (by decide), if_pos rfl, ← nI_succ, f1]
    rfl
  · unfold FM_forgedSize
    rw [e2, Option.bind_some, f2]
    rfl
end ASK
theorem body_free : ∀ (n : Nat) (σA : MS) (l2 : Nat) (l3 l4 : Int32), FA_bodyFor_22 n σA l2 l3 l4 = FA_bodyFor_22 n s0 l2 l3 l4 := by
  intro n
  induction n with
  | zero => intros; rfl
  | succ n ih =>
    intro σA l2 l3 l4
    have g : FA_bodyFor_49 σA l2 l3 = FA_bodyFor_49 s0 l2 l3 := rfl
    have i : FA_bodyFor_22 n σA = FA_bodyFor_22 n s0 := by
      funext a b c
      exact ih σA a b c
    unfold FA_bodyFor_22
    rw [g, i]
def zBo (w k : Nat) : Nat := if w = 0 then [10, 11, 12, 11, 14, 13].getD k 0 else [20, 21, 21, 22, 24, 23].getD k 0
theorem body_tab : ∀ k, k < 6 → FA_bodyFor_22 fuelN s0 1 (nI k) 0 = some (nI (zBo 0 k)) ∧ FA_bodyFor_22 fuelN s0 2 (nI k) 0 = some (nI (zBo 1 k)) := by decide +kernel
theorem p_body {σA : MS} {k : Nat} (hk : k < 6) (e : σA.1 3 = nI k) : FA_bodyFor σA 0 = some (nI (zBo 0 k)) ∧ FA_bodyFor σA 1 = some (nI (zBo 1 k)) := by
  obtain ⟨t1, t2⟩ := body_tab k hk
  constructor
  · unfold FA_bodyFor FA_bodyFor_13
    rw [if_pos rfl, e]
    show FA_bodyFor_22 fuelN σA 1 (nI k) 0 = _
    rw [body_free, t1]
  · unfold FA_bodyFor FA_bodyFor_13
    rw [if_neg one_ne_zero32, e]
    show FA_bodyFor_22 fuelN σA 2 (nI k) 0 = _
    rw [body_free, t2]
section ASK2
variable {σ0 σA σ : MS} {j n : Nat} {A S : Int32}
theorem p_mark {k : Nat} (hk0 : 1 ≤ k) (hk : k < 6) (h : St σ0 j (nI k) A S n σA σ) (hn : n + 4 ≤ 16) {p : Nat} (hp : p + 3 ≤ 40) (d : Nat) : ∃ (v : Int32) (σA' σ' : MS) (n' : Nat), FA_begin (d + 4) σA (nI (zBo 1 k)) (nI p) = some (v, σA') ∧ FM_markOf σ (nI j) = some (v, σ') ∧ St σ0 j (nI k) A S n' σA' σ' := by
  have o0 := h.2.2.1.1
  rcases (show k = 1 ∨ k = 2 ∨ k = 3 ∨ k = 4 ∨ k = 5 by omega) with rfl | rfl | rfl | rfl | rfl
  · obtain ⟨f1, f2, f3, f4⟩ := B21 h (by omega) (p := p) (by omega) (d + 2)
    refine ⟨_, _, _, _, f1, ?_, f4⟩
    unfold FM_markOf FM_markOf_43 FM_markOf_54 FM_markOf_85
    rw [o0, Option.bind_some, if_neg (by decide), if_neg (by decide), if_pos (by decide), f2, Option.bind_some, f3, Option.bind_some, f4.2.2.1.2.2, Option.bind_some, if_pos (by decide)]
    simp only [nm]
    rw [if_neg (by decide), Int32.sub_zero]
  · obtain ⟨f1, f2, f3, f4⟩ := B21 h (by omega) (p := p) (by omega) (d + 2)
    refine ⟨_, _, _, _, f1, ?_, f4⟩
    unfold FM_markOf FM_markOf_43 FM_markOf_54 FM_markOf_85
    rw [o0, Option.bind_some, if_neg (by decide), if_neg (by decide), if_pos (by decide), f2, Option.bind_some, f3, Option.bind_some, f4.2.2.1.2.2, Option.bind_some, if_pos (by decide)]
    simp only [nm]
    rw [if_neg (by decide), Int32.sub_zero]
  · have f0 := B22 h (by omega) (p := p) (by omega) (d + 1)
    obtain ⟨e1, e2, e3⟩ := h.note (by omega) 22
    obtain ⟨f1, f2, f3, f4⟩ := B21 e3 (by omega) (p := p) (by omega) d
    refine ⟨_, _, _, _, f0, ?_, f4⟩
    unfold FM_markOf FM_markOf_43 FM_markOf_54 FM_markOf_85
    rw [o0, Option.bind_some, if_neg (by decide), if_neg (by decide), if_neg (by decide), e2, Option.bind_some, f2, Option.bind_some, f3, Option.bind_some, f4.2.2.1.2.2, Option.bind_some, if_neg (by decide)]
    simp only [nm]
    rw [if_neg (by decide)]
  · obtain ⟨g1, g2, g3⟩ := h.note (by omega) 24
    have f0 := B22 g3 (by omega) (p := p + 1) (by omega) d
    obtain ⟨e1, e2, e3⟩ := g3.note (by omega) 22
    obtain ⟨f1, f2, f3, f4⟩ := B21 e3 (by omega) (p := p) (by omega) d
    refine ⟨2 * (nI j + S - 1000), _, _, _, ?_, ?_, f4⟩
    · show FA_begin_B (FA_begin (d + 3)) σA 24 (nI p) = _
      rw [FB (p40 (by omega)) g1, if_neg (by decide), if_neg (by decide), if_neg (by decide), if_neg (by decide), if_neg (by decide), if_neg (by decide), if_neg (by decide), if_neg (by decide), if_neg (by decide), if_neg (by decide), if_neg (by decide), if_neg (by decide), if_neg (by decide), if_neg (by decide), if_neg (by decide), if_pos rfl, ← nI_succ, f0]
      rfl
    · unfold FM_markOf FM_markOf_43 FM_markOf_54 FM_markOf_85
      rw [o0, Option.bind_some, if_neg (by decide), if_pos (by decide), g2, Option.bind_some, if_neg (by decide), e2, Option.bind_some, f2, Option.bind_some, f3, Option.bind_some, f4.2.2.1.2.2, Option.bind_some, if_neg (by decide)]
      simp only [nm]
      rw [if_pos (by decide)]
  · obtain ⟨g1, g2, g3⟩ := h.note (by omega) 23
    obtain ⟨e1, e2, e3⟩ := B20 g3 (by omega) (p := p + 1) (by omega) (d + 2)
    obtain ⟨f1, f2, f3⟩ := B13 e3 (by omega) (p := p + 1) (by omega) (d + 1)
    refine ⟨nI j - (A - 100), _, _, _, ?_, ?_, f3⟩
    · show FA_begin_B (FA_begin (d + 3)) σA 23 (nI p) = _
      rw [FB (p40 (by omega)) g1, if_neg (by decide), if_neg (by decide), if_neg (by decide), if_neg (by decide), if_neg (by decide), if_neg (by decide), if_neg (by decide), if_neg (by decide), if_neg (by decide), if_neg (by decide), if_neg (by decide), if_neg (by decide), if_neg (by decide), if_neg (by decide), if_pos rfl, ← nI_succ, e1]
      show Option.bind (FA_bodyFor (nA (nA σA n 23) (n + 1) 20) 0) _ = _
      rw [(p_body (by decide) e3.2.1.2.1).1, Option.bind_some, show nI (zBo 0 5) = 13 from by decide, f1]
      rfl
    · unfold FM_markOf
      rw [o0, Option.bind_some, if_pos (by decide), g2, Option.bind_some, e2, Option.bind_some, f2]
      rfl
theorem p_11 {k : Nat} (hk0 : 1 ≤ k) (hk : k < 6) (h : St σ0 j (nI k) A S n σA σ) (hn : n + 6 ≤ 16) {p : Nat} (hp : p + 4 ≤ 40) (d : Nat) (l2 : Int32) : ∃ (v : Int32) (σA' σ' : MS) (n' : Nat), FA_begin (d + 5) σA 11 (nI p) = some (v, σA') ∧ FM_sizeOf_44 σ (nI j) l2 = (if l2 = 2 then some (-v, σ') else if l2 = 4 then some (2 * v, σ') else some (v, σ')) ∧ St σ0 j (nI k) A S n' σA' σ' := by
  obtain ⟨g1, g2, g3⟩ := h.note (by omega) 11
  obtain ⟨e1, e2, e3⟩ := B10 g3 (by omega) (p := p + 1) (by omega) (d + 3)
  obtain ⟨v, σA', σ', n', f1, f2, f3⟩ := p_mark hk0 hk e3 (by omega) (p := p + 1) (by omega) d
  refine ⟨A + v, σA', σ', n', ?_, ?_, f3⟩
  · show FA_begin_B (FA_begin (d + 4)) σA 11 (nI p) = _
    rw [FB (p40 (by omega)) g1, if_neg (by decide), if_neg (by decide), if_pos rfl, ← nI_succ, e1]
    show Option.bind (FA_bodyFor (nA (nA σA n 11) (n + 1) 10) 1) _ = _
    rw [(p_body hk e3.2.1.2.1).2, Option.bind_some, f1]
    rfl
  · unfold FM_sizeOf_44
    rw [g2, Option.bind_some, e2, bd2_s, f2]
    rfl
theorem p_size {k : Nat} (hk0 : 1 ≤ k) (hk : k < 6) (h : St σ0 j (nI k) A S n σA σ) (hn : n + 7 ≤ 16) {p : Nat} (hp : p + 5 ≤ 40) (d : Nat) : ∃ (v : Int32) (σA' σ' : MS) (n' : Nat), FA_begin (d + 6) σA (nI (zBo 0 k)) (nI p) = some (v, σA') ∧ FM_sizeOf σ (nI j) = some (v, σ') ∧ St σ0 j (nI k) A S n' σA' σ' := by
  have o0 := h.2.2.1.1
  have hkk := hk
  rcases (show k = 1 ∨ k = 2 ∨ k = 3 ∨ k = 4 ∨ k = 5 by omega) with rfl | rfl | rfl | rfl | rfl
  · obtain ⟨v, σA', σ', n', f1, f2, f3⟩ := p_11 hk0 hk h (by omega) (p := p) (by omega) (d + 1) (nI 1)
    refine ⟨v, σA', σ', n', f1, ?_, f3⟩
    unfold FM_sizeOf
    rw [o0, Option.bind_some, if_neg (by decide), if_neg (by decide), if_neg (by decide), f2, if_neg (by decide), if_neg (by decide)]
  · obtain ⟨g1, g2, g3⟩ := h.note (by omega) 12
    obtain ⟨v, σA', σ', n', f1, f2, f3⟩ := p_11 hk0 hk g3 (by omega) (p := p + 1) (by omega) d (nI 2)
    refine ⟨-v, σA', σ', n', ?_, ?_, f3⟩
    · show FA_begin_B (FA_begin (d + 5)) σA 12 (nI p) = _
      rw [FB (p40 (by omega)) g1, if_neg (by decide), if_neg (by decide), if_neg (by decide), if_pos rfl, ← nI_succ, f1]
      rfl
    · unfold FM_sizeOf FM_sizeOf_28 FM_sizeOf_41
      rw [o0, Option.bind_some, if_neg (by decide), if_pos (by decide), if_pos (by decide), g2, Option.bind_some, f2, if_pos (by decide)]
  · obtain ⟨v, σA', σ', n', f1, f2, f3⟩ := p_11 hk0 hk h (by omega) (p := p) (by omega) (d + 1) (nI 3)
    refine ⟨v, σA', σ', n', f1, ?_, f3⟩
    unfold FM_sizeOf
    rw [o0, Option.bind_some, if_neg (by decide), if_neg (by decide), if_neg (by decide), f2, if_neg (by decide), if_neg (by decide)]
  · obtain ⟨g1, g2, g3⟩ := h.note (by omega) 14
    obtain ⟨v, σA', σ', n', f1, f2, f3⟩ := p_11 hk0 hk g3 (by omega) (p := p + 1) (by omega) d (nI 4)
    refine ⟨2 * v, σA', σ', n', ?_, ?_, f3⟩
    · show FA_begin_B (FA_begin (d + 5)) σA 14 (nI p) = _
      rw [FB (p40 (by omega)) g1, if_neg (by decide), if_neg (by decide), if_neg (by decide), if_neg (by decide), if_neg (by decide), if_pos rfl, ← nI_succ, f1]
      rfl
    · unfold FM_sizeOf FM_sizeOf_28 FM_sizeOf_41
      rw [o0, Option.bind_some, if_neg (by decide), if_neg (by decide), if_pos (by decide), if_neg (by decide), g2, Option.bind_some, f2, if_neg (by decide), if_pos (by decide)]
  · obtain ⟨f1, f2, f3⟩ := B13 h (by omega) (p := p) (by omega) (d + 4)
    refine ⟨_, _, _, _, f1, ?_, f3⟩
    unfold FM_sizeOf
    rw [o0, Option.bind_some, if_pos (by decide), f2]
    rfl
end ASK2
theorem Rel.tr {k : Nat} {σP σL σG σR σT σC σA σA' σK : MS} {ω ι : Nat → MS} {σ σ' : MS} (h : Rel k σP σL σG σR σT σC σA σK ω ι σ) (hF : ∀ i, i ≠ 0 → i ≠ 25 → σ'.1 i = σ.1 i) (hA : ∀ i, i ≠ 24 → σ'.2 i = σ.2 i) (hT : RTrace σA' (σ'.1 25) (σ'.2 24)) : Rel (k + 1) σP σL σG σR σT σC σA' σK ω ι σ' := by
  obtain ⟨⟨h1, h2⟩, h3, h9, ⟨h4, h5⟩, h6, h7, -⟩ := Rel.mono _ _ _ _ _ _ _ _ _ _ _ _ h
  refine ⟨⟨?_, ?_⟩, ?_, ?_, ⟨?_, ?_⟩, ?_, ?_, hT⟩
  · rw [hF 1 (by decide) (by decide)]; exact h1
  · rw [hF 12 (by decide) (by decide)]; exact h2
  · rw [hA 2 (by decide), hA 3 (by decide), hA 4 (by decide)]; exact h3
  · rw [hF 11 (by decide) (by decide), hA 10 (by decide)]; exact h9
  · rw [hF 7 (by decide) (by decide)]; exact h4
  · rw [hA 5 (by decide)]; exact h5
  · rw [hF 9 (by decide) (by decide), hA 8 (by decide)]; exact h6
  · rw [hA 22 (by decide), hA 23 (by decide)]; exact h7
theorem sim_ask : Sim_ask Rel := by
  intro k σP σL σG σR σT σC σA σK ω ι σ a1 a2 hk h
  obtain ⟨ec, hco⟩ := h.coin
  have hm := Rel.mono _ _ _ _ _ _ _ _ _ _ _ _ h
  have hR := h.2.2.2.1.2
  by_cases hc : 0 ≤ a1 ∧ a1 ≤ σL.1 7 - 1
  · have M1 : FM_isCoin (setF σ 0 0) a1 = some 1 := by
      rw [p_isCoin, if_pos (by show 0 ≤ a1 ∧ a1 ≤ σ.2 5 3 - 1; rw [ec]; exact hc)]
    by_cases hd : 0 ≤ a2 ∧ a2 ≤ 1
    · obtain ⟨j, hj, rfl, hl⟩ := hco hc
      obtain ⟨q, t, C⟩ := RReal.cn (σ := setF σ 0 0) hR hj hl
      obtain ⟨-, ⟨-, ab1, -⟩, ⟨o0, o1, o2, o3, o4, o5⟩, ⟨-, -, ls, ms⟩, -, -, hk5, -⟩ := C
      obtain ⟨kk, hkk, ek⟩ := nI_of2 (x := σL.2 2 j) (M := 5) (n := 5) (by decide) (fun z => by
        have := hk5.1
        rw [Int32.le_iff_toInt_le] at this
        rw [Int32.lt_iff_toInt_lt] at z
        have e1 : (1 : Int32).toInt = 1 := by decide
        have e2 : (0 : Int32).toInt = 0 := by decide
        omega) hk5.2
      have hk1 : 1 ≤ kk := by
        have := hk5.1
        rw [ek] at this
        exact (nI_leI (a := 1) (by decide) (by omega)).mp this
      have S0 : St (setF (setF σ 0 0) 25 0) j (nI kk) (σL.2 3 (5 * j + 1)) (spanV (σL.2 2 j) (σL.1 5)) 0 (setF (setF (setF (setF (setF σA 1 0) 2 (nI j)) 3 (nI kk)) 4 (σL.2 3 (5 * j + 1))) 5 (spanV (σL.2 2 j) (σL.1 5))) (setF (setF σ 0 0) 25 0) :=
        ⟨⟨by omega, rfl, rfl, fun i hi => absurd hi (Nat.not_lt_zero i)⟩, ⟨rfl, rfl, rfl, rfl⟩, ⟨by rw [← ek]; exact o0, o2, ms⟩, fun _ _ => rfl, fun _ _ => rfl⟩
      obtain ⟨b1, b2⟩ := p_body (by omega) S0.2.1.2.1
      have P0 : ∀ x, FP_ask σL σA (nI j) x = (Option.bind (FP_outside x 0 1) fun (r3 : Int32) => if r3 = 0 then (Option.bind (FA_bodyFor (setF (setF (setF (setF (setF σA 1 0) 2 (nI j)) 3 (nI kk)) 4 (σL.2 3 (5 * j + 1))) 5 (spanV (σL.2 2 j) (σL.1 5))) x) fun r9 => bd2 (FA_begin 12 (setF (setF (setF (setF (setF σA 1 0) 2 (nI j)) 3 (nI kk)) 4 (σL.2 3 (5 * j + 1))) 5 (spanV (σL.2 2 j) (σL.1 5))) r9 0) fun r10 s11 => some (r10, s11)) else some (-1000001, σA)) := by
        intro x
        unfold FP_ask FA_answer
        rw [p_noCoin, if_pos hc, Option.bind_some, if_pos rfl]
        simp only [nm]
        rw [gd_nI hj (by decide), nI_clamp (by omega), ek, ab1, ls, ek]
        cases FP_outside x 0 1 with
        | none => rfl
        | some r =>
          simp only [Option.bind_some]
          by_cases z : r = 0
          · rw [if_pos z, if_pos z, bd2_id]
          · rw [if_neg z, if_neg z]
      rcases (show a2 = 0 ∨ a2 = 1 by
        obtain ⟨r, hr, rfl⟩ := ix1 hd
        rcases (show r = 0 ∨ r = 1 by omega) with rfl | rfl
        · exact Or.inl rfl
        · exact Or.inr rfl) with rfl | rfl
      · obtain ⟨v, σA', σ', n', f1, f2, f3⟩ := p_size hk1 (by omega) S0 (by omega) (p := 0) (by omega) 6
        refine ⟨v, σA', σ', ?_, ?_, h.tr (fun i h0 h25 => ?_) (fun i h24 => ?_) ?_⟩
        · rw [P0, p_outside, if_pos hd, Option.bind_some, if_pos rfl, b1, Option.bind_some, show FA_begin 12 _ (nI (zBo 0 kk)) 0 = _ from f1]
          rfl
        · unfold FM_ask
          show Option.bind (FM_isCoin (setF σ 0 0) (nI j)) _ = _
          rw [M1, Option.bind_some, if_neg one_ne_zero32, show FM_in (Int32.toInt64 0) 0 1 = _ from p_in 0 0 1, if_pos hd, Option.bind_some, if_neg one_ne_zero32, nm_s, if_pos rfl, f2]
          rfl
        · rw [f3.2.2.2.1 i h25]
          show va_up (va_up σ.1 0 0) 25 0 i = _
          rw [va_up_ne _ _ h25, va_up_ne _ _ h0]
        · rw [f3.2.2.2.2 i h24]
          rfl
        · obtain ⟨g1, g2, g3, g4⟩ := f3.1
          rw [g3]
          exact ⟨g2, nI_pos' (by omega), nI_le (a := n') (b := 16) g1 (by decide), fun i hi hl => g4 i ((nI_ltI (by omega) (by omega)).mp hl)⟩
      · obtain ⟨v, σA', σ', n', f1, f2, f3⟩ := p_mark hk1 (by omega) S0 (by omega) (p := 0) (by omega) 8
        refine ⟨v, σA', σ', ?_, ?_, h.tr (fun i h0 h25 => ?_) (fun i h24 => ?_) ?_⟩
        · rw [P0, p_outside, if_pos hd, Option.bind_some, if_pos rfl, b2, Option.bind_some, show FA_begin 12 _ (nI (zBo 1 kk)) 0 = _ from f1]
          rfl
        · unfold FM_ask
          show Option.bind (FM_isCoin (setF σ 0 0) (nI j)) _ = _
          rw [M1, Option.bind_some, if_neg one_ne_zero32, show FM_in (Int32.toInt64 1) 0 1 = _ from p_in 1 0 1, if_pos hd, Option.bind_some, if_neg one_ne_zero32, nm_s, if_neg one_ne_zero32, f2]
          rfl
        · rw [f3.2.2.2.1 i h25]
          show va_up (va_up σ.1 0 0) 25 0 i = _
          rw [va_up_ne _ _ h25, va_up_ne _ _ h0]
        · rw [f3.2.2.2.2 i h24]
          rfl
        · obtain ⟨g1, g2, g3, g4⟩ := f3.1
          rw [g3]
          exact ⟨g2, nI_pos' (by omega), nI_le (a := n') (b := 16) g1 (by decide), fun i hi hl => g4 i ((nI_ltI (by omega) (by omega)).mp hl)⟩
    · refine ⟨-1000001, σA, setF σ 0 0, ?_, ?_, hm⟩
      · unfold FP_ask
        rw [p_noCoin, if_pos hc, Option.bind_some, if_pos rfl, p_outside, if_neg hd]
        rfl
      · unfold FM_ask
        show Option.bind (FM_isCoin (setF σ 0 0) a1) _ = _
        rw [M1, Option.bind_some, if_neg one_ne_zero32, show FM_in (Int32.toInt64 a2) 0 1 = _ from p_in a2 0 1, if_neg hd]
        rfl
  · refine ⟨-1000001, σA, setF σ 0 0, ?_, ?_, hm⟩
    · unfold FP_ask
      rw [p_noCoin, if_neg hc]
      rfl
    · unfold FM_ask
      show Option.bind (FM_isCoin (setF σ 0 0) a1) _ = _
      rw [p_isCoin, if_neg (by show ¬ (0 ≤ a1 ∧ a1 ≤ σ.2 5 3 - 1); rw [ec]; exact hc)]
      rfl
/-! PURE: a day -/
def put4 (f : Nat → Int32) (b : Nat) (a h l d : Int32) : Nat → Int32 := fun i => if i = b + 1 then a else if i = b + 2 then h else if i = b + 3 then l else if i = b + 4 then d else f i
def V4 (f : Nat → Int32) (b : Nat) : Int32 × Int32 × Int32 × Int32 := (f (b + 1), f (b + 2), f (b + 3), f (b + 4))
section P4
variable (f : Nat → Int32) (b : Nat) (a h l d v : Int32)
theorem p4_1 : put4 f b a h l d (b + 1) = a := by simp [put4]
theorem p4_2 : put4 f b a h l d (b + 2) = h := by simp [put4]
theorem p4_3 : put4 f b a h l d (b + 3) = l := by simp [put4]
theorem p4_4 : put4 f b a h l d (b + 4) = d := by simp [put4]
theorem p4_out {i : Nat} (hi : ¬ (b + 1 ≤ i ∧ i ≤ b + 4)) : put4 f b a h l d i = f i := by
  unfold put4
  rw [if_neg (by omega), if_neg (by omega), if_neg (by omega), if_neg (by omega)]
theorem p4_u1 : upd (put4 f b a h l d) (b + 1) v = put4 f b v h l d := by
  funext i
  unfold upd put4
  by_cases z : i = b + 1
  · simp [z]
  · simp [z]
theorem p4_u2 : upd (put4 f b a h l d) (b + 2) v = put4 f b a v l d := by
  funext i
  unfold upd put4
  by_cases z : i = b + 2
  · simp [z]
  · simp [z]
theorem p4_u3 : upd (put4 f b a h l d) (b + 3) v = put4 f b a h v d := by
  funext i
  unfold upd put4
  by_cases z : i = b + 3
  · simp [z]
  · simp [z]
theorem p4_u4 : upd (put4 f b a h l d) (b + 4) v = put4 f b a h l v := by
  funext i
  unfold upd put4
  by_cases z : i = b + 4
  · simp [z]
  · simp [z]
theorem p4_V : V4 (put4 f b a h l d) b = (a, h, l, d) := by
  unfold V4
  rw [p4_1, p4_2, p4_3, p4_4]
theorem p4_Vo {b' : Nat} (hb : b' + 4 < b + 1 ∨ b + 4 < b' + 1) : V4 (put4 f b a h l d) b' = V4 f b' := by
  unfold V4
  rw [p4_out _ _ _ _ _ _ (by omega), p4_out _ _ _ _ _ _ (by omega), p4_out _ _ _ _ _ _ (by omega), p4_out _ _ _ _ _ _ (by omega)]
theorem p4_id (e : V4 f b = (a, h, l, d)) : put4 f b a h l d = f := by
  unfold V4 at e
  simp only [Prod.mk.injEq] at e
  obtain ⟨e1, e2, e3, e4⟩ := e
  funext i
  unfold put4
  by_cases z1 : i = b + 1
  · rw [if_pos z1, z1, e1]
  rw [if_neg z1]
  by_cases z2 : i = b + 2
  · rw [if_pos z2, z2, e2]
  rw [if_neg z2]
  by_cases z3 : i = b + 3
  · rw [if_pos z3, z3, e3]
  rw [if_neg z3]
  by_cases z4 : i = b + 4
  · rw [if_pos z4, z4, e4]
  rw [if_neg z4]
end P4
def gA (K A H L D : Int32) : Int32 := if H = 1 then (if L = 1 then (if D = 1 then A else if K = 5 then (if D = 0 then A + 1 else A) else 0) else (if D = 0 then A + 1 else A)) else if D = 0 then (if H = 3 then A else A + 1) else A
def gH (K H L D : Int32) : Int32 := if H = 1 then (if L = 1 then (if D = 1 then 3 else if K = 5 then 3 else 2) else 1) else if H = 2 then (if L = 1 then 0 else 2) else H
def gL (K H L D w : Int32) : Int32 := if H = 1 then (if L = 1 then (if D = 1 then 0 else if K = 5 then 0 else w) else L - 1) else if H = 2 then (if L = 1 then 0 else L - 1) else L
def gD (K A D S : Int32) : Int32 := if D = 0 then (if K = 5 then 0 else if A ≤ S then 0 else 1) else 1
def gB (K A D S : Int32) (c : Nat) : Int32 := if D = 0 then (if K = 5 then 0 else if A ≤ S then 0 else 1 <<< (nI c &&& 31)) else 0
section DAYL
variable {σL : MS} {y : Nat → Int32} {c q t : Nat} {K A H L D S w v : Int32}
theorem LA1 (hc : c < 12) : FL_about (setR σL 3 (put4 y (5 * c) A H L D)) (nI c) 1 = some A := (p_about (setR σL 3 (put4 y (5 * c) A H L D)) (c := c) (f := 1) (by omega)).trans (congrArg some (p4_1 y (5 * c) A H L D))
theorem LA2 (hc : c < 12) : FL_about (setR σL 3 (put4 y (5 * c) A H L D)) (nI c) 2 = some H := (p_about (setR σL 3 (put4 y (5 * c) A H L D)) (c := c) (f := 2) (by omega)).trans (congrArg some (p4_2 y (5 * c) A H L D))
theorem LA3 (hc : c < 12) : FL_about (setR σL 3 (put4 y (5 * c) A H L D)) (nI c) 3 = some L := (p_about (setR σL 3 (put4 y (5 * c) A H L D)) (c := c) (f := 3) (by omega)).trans (congrArg some (p4_3 y (5 * c) A H L D))
theorem LA4 (hc : c < 12) : FL_about (setR σL 3 (put4 y (5 * c) A H L D)) (nI c) 4 = some D := (p_about (setR σL 3 (put4 y (5 * c) A H L D)) (c := c) (f := 4) (by omega)).trans (congrArg some (p4_4 y (5 * c) A H L D))
theorem setA_setR (σ : MS) (k i : Nat) (f : Nat → Int32) (x : Int32) : setA (setR σ k f) k i x = setR σ k (upd f i x) := by
  rw [setA_R, setR_setR, setR_get]
theorem LP1 (hc : c < 12) : FL_put (setR σL 3 (put4 y (5 * c) A H L D)) (nI c) 1 v = some (setR σL 3 (put4 y (5 * c) v H L D)) := by
  rw [show FL_put (setR σL 3 (put4 y (5 * c) A H L D)) (nI c) 1 v = _ from p_lput _ (c := c) (f := 1) (by omega) v, setA_setR, p4_u1]
theorem LP2 (hc : c < 12) : FL_put (setR σL 3 (put4 y (5 * c) A H L D)) (nI c) 2 v = some (setR σL 3 (put4 y (5 * c) A v L D)) := by
  rw [show FL_put (setR σL 3 (put4 y (5 * c) A H L D)) (nI c) 2 v = _ from p_lput _ (c := c) (f := 2) (by omega) v, setA_setR, p4_u2]
theorem LP3 (hc : c < 12) : FL_put (setR σL 3 (put4 y (5 * c) A H L D)) (nI c) 3 v = some (setR σL 3 (put4 y (5 * c) A H v D)) := by
  rw [show FL_put (setR σL 3 (put4 y (5 * c) A H L D)) (nI c) 3 v = _ from p_lput _ (c := c) (f := 3) (by omega) v, setA_setR, p4_u3]
theorem LP4 (hc : c < 12) : FL_put (setR σL 3 (put4 y (5 * c) A H L D)) (nI c) 4 v = some (setR σL 3 (put4 y (5 * c) A H L v)) := by
  rw [show FL_put (setR σL 3 (put4 y (5 * c) A H L D)) (nI c) 4 v = _ from p_lput _ (c := c) (f := 4) (by omega) v, setA_setR, p4_u4]
theorem LDu (hc : c < 12) : FL_dumb (setR σL 3 (put4 y (5 * c) A H L D)) (nI c) = some (if D = 1 then 1 else 0) := by
  unfold FL_dumb
  rw [LA4 hc, Option.bind_some]
  by_cases z : D = 1
  · rw [if_pos z, if_pos z]
  · rw [if_neg z, if_neg z]
theorem LFo (hc : c < 12) (eK : σL.2 2 c = K) : FL_forged (setR σL 3 (put4 y (5 * c) A H L D)) (nI c) = some (if K = 5 then 1 else 0) := by
  unfold FL_forged
  rw [gd_nI hc (by decide), nI_clamp (by omega), show (setR σL 3 (put4 y (5 * c) A H L D)).2 2 c = K from eK]
  by_cases z : K = 5
  · rw [if_pos z, if_pos z]
  · rw [if_neg z, if_neg z]
theorem LSp (hc : c < 12) (eS : spanV (σL.2 2 c) (σL.1 5) = S) : FL_spanOf (setR σL 3 (put4 y (5 * c) A H L D)) (nI c) = some S := by
  rw [p_lspan _ hc]
  exact congrArg some eS
theorem LTo (hc : c < 12) (hq : q < 6) (ey : y (5 * c) = nI q) (et : σL.2 1 q = nI t) : FL_townOf (setR σL 3 (put4 y (5 * c) A H L D)) (nI c) = some (nI t) :=
  p_ltownOf _ hc hq (show put4 y (5 * c) A H L D (5 * c) = nI q from (p4_out _ _ _ _ _ _ (by omega)).trans ey) et
theorem LDi (ht : t < 8) (ew : σL.2 0 t = w) (hw : w < 1000000) : FL_distance (setR σL 3 y) 0 (nI t) = some w := by
  rw [show FL_distance (setR σL 3 y) 0 (nI t) = _ from p_dist _ (a := 0) (b := t) (by decide) ht, show (setR σL 3 y).2 0 (8 * 0 + t) = w from by rw [Nat.mul_zero, Nat.zero_add]; exact ew, if_pos hw]
theorem i_01 : ¬ (0 : Int32) = 1 := by decide
theorem i_02 : ¬ (0 : Int32) = 2 := by decide
theorem i_03 : ¬ (0 : Int32) = 3 := by decide
theorem i_12 : ¬ (1 : Int32) = 2 := by decide
theorem i_13 : ¬ (1 : Int32) = 3 := by decide
theorem i_21 : ¬ (2 : Int32) = 1 := by decide
theorem i_23 : ¬ (2 : Int32) = 3 := by decide
theorem i_30 : ¬ (3 : Int32) = 0 := by decide
theorem i_31 : ¬ (3 : Int32) = 1 := by decide
theorem i_32 : ¬ (3 : Int32) = 2 := by decide
theorem i_20 : ¬ (2 : Int32) = 0 := by decide
theorem i_s11 : (1 : Int32) - 1 = 0 := by decide
theorem i_le00 : (0 : Int32) ≤ 0 := by decide
theorem i_L {L : Int32} (h0 : 1 ≤ L.toInt) (h1 : ¬ L = 1) : ¬ L - 1 ≤ 0 ∧ ¬ L - 1 = 0 := by
  have e1 : (1 : Int32).toInt = 1 := by decide
  have hu := Int32.toInt_lt L
  have e2 := i32_sub_toInt (a := L) (b := 1) (by omega) (by omega)
  have h2 : L.toInt ≠ 1 := fun z => h1 (Int32.toInt_inj.mp (z.trans e1.symm))
  have e0 : (0 : Int32).toInt = 0 := by decide
  constructor
  · rw [Int32.le_iff_toInt_le]; omega
  · intro z
    have := congrArg Int32.toInt z
    omega
/-- what a coin is, so that a day can go by -/
def OKH (K H L D w : Int32) : Prop := H = 0 ∨ ((H = 1 ∨ H = 2) ∧ 1 ≤ L.toInt ∧ w < 1000000) ∨ H = 3
theorem L_travel (hc : c < 12) (hq : q < 6) (ht : t < 8) (ey : y (5 * c) = nI q) (et : σL.2 1 q = nI t) (ew : σL.2 0 t = w) (eK : σL.2 2 c = K) (hD : D = 0 ∨ D = 1) (hH : H = 1 ∨ H = 2) (hL : 1 ≤ L.toInt) (hw : w < 1000000) : FL_travel (setR σL 3 (put4 y (5 * c) A H L D)) (nI c) = some (setR σL 3 (put4 y (5 * c) (if H = 1 ∧ L = 1 ∧ ¬ D = 1 ∧ ¬ K = 5 then 0 else A) (gH K H L D) (gL K H L D w) D)) := by
  have T := fun A H L D => LTo (σL := σL) (y := y) (c := c) (A := A) (H := H) (L := L) (D := D) hc hq ey et
  have F := fun A H L D => LFo (σL := σL) (y := y) (c := c) (A := A) (H := H) (L := L) (D := D) hc eK
  have I := fun y => LDi (σL := σL) (y := y) ht ew hw
  unfold FL_travel FL_travel_60 gH gL
  by_cases hL1 : L = 1
  · subst hL1
    rcases hD with rfl | rfl <;> rcases hH with rfl | rfl <;> by_cases hK : K = 5 <;>
      simp [LA1 hc, LA2 hc, LA3 hc, LA4 hc, LP1 hc, LP2 hc, LP3 hc, LP4 hc, LDu hc, F, T, I, i_s11, i_le00, i_01, i_12, i_21, hK]
  · obtain ⟨n1, n2⟩ := i_L hL hL1
    rcases hH with rfl | rfl <;>
      simp [LA1 hc, LA2 hc, LA3 hc, LA4 hc, LP1 hc, LP2 hc, LP3 hc, LP4 hc, n1, hL1, i_21]
theorem dayL_step (hc : c < 12) (hq : q < 6) (ht : t < 8) (ey : y (5 * c) = nI q) (et : σL.2 1 q = nI t) (ew : σL.2 0 t = w) (eK : σL.2 2 c = K) (eS : spanV (σL.2 2 c) (σL.1 5) = S) (hD : D = 0 ∨ D = 1) (hH : OKH K H L D w) (hN : ¬ σL.1 7 ≤ nI c) (n : Nat) (acc : Int32) :
    FL_liveDay_15 (n + 1) (setR σL 3 (put4 y (5 * c) A H L D)) acc (nI c) = FL_liveDay_15 n (setR σL 3 (put4 y (5 * c) (gA K A H L D) (gH K H L D) (gL K H L D w) (gD K (gA K A H L D) D S))) (acc ||| gB K (gA K A H L D) D S c) (nI (c + 1)) := by
  have F := fun A H L D => LFo (σL := σL) (y := y) (c := c) (A := A) (H := H) (L := L) (D := D) hc eK
  have Sp := fun A H L D => LSp (σL := σL) (y := y) (c := c) (A := A) (H := H) (L := L) (D := D) hc eS
  have E68 : ∀ A H L, FL_liveDay_68 (FL_liveDay_15 n) (setR σL 3 (put4 y (5 * c) A H L D)) acc (nI c) = FL_liveDay_15 n (setR σL 3 (put4 y (5 * c) A H L (gD K A D S))) (acc ||| gB K A D S c) (nI (c + 1)) := by
    intro A H L
    unfold FL_liveDay_68 FL_liveDay_111 gD gB
    rcases hD with rfl | rfl
    · by_cases hK : K = 5
      · simp [LDu hc, F, hK, i_01, nm, nI_succ]
      · by_cases hA : A ≤ S
        · simp [LDu hc, F, hK, i_01, nm, nI_succ, LA1 hc, Sp, hA]
        · simp [LDu hc, F, hK, i_01, nm, nI_succ, LA1 hc, Sp, hA, LP4 hc]
    · simp [LDu hc, nm, nI_succ]
  have E55 : ∀ A, FL_liveDay_55 (FL_liveDay_15 n) (setR σL 3 (put4 y (5 * c) A H L D)) acc (nI c) = FL_liveDay_68 (FL_liveDay_15 n) (setR σL 3 (put4 y (5 * c) (if H = 1 ∧ L = 1 ∧ ¬ D = 1 ∧ ¬ K = 5 then 0 else A) (gH K H L D) (gL K H L D w) D)) acc (nI c) := by
    intro A
    unfold FL_liveDay_55
    rw [p_under (LA2 hc), Option.bind_some]
    rcases hH with rfl | ⟨hH, hL, hw⟩ | rfl
    · unfold gH gL
      simp [i_01, i_02]
    · rw [if_pos hH, if_neg one_ne_zero32, L_travel hc hq ht ey et ew eK hD hH hL hw, Option.bind_some]
    · unfold gH gL
      simp [i_31, i_32]
  have E15 : FL_liveDay_15 (n + 1) (setR σL 3 (put4 y (5 * c) A H L D)) acc (nI c) = FL_liveDay_55 (FL_liveDay_15 n) (setR σL 3 (put4 y (5 * c) (if D = 0 then (if H = 3 then A else A + 1) else A) H L D)) acc (nI c) := by
    conv => lhs; unfold FL_liveDay_15
    rw [if_neg (show ¬ (setR σL 3 (put4 y (5 * c) A H L D)).1 7 ≤ nI c from hN), LDu hc, Option.bind_some]
    rcases hD with rfl | rfl
    · rw [if_neg i_01, if_pos rfl, LA2 hc, Option.bind_some, if_pos rfl]
      by_cases h3 : H = 3
      · rw [if_pos h3, if_pos h3]
      · rw [if_neg h3, if_neg h3, LA1 hc, Option.bind_some, LP1 hc, Option.bind_some]
    · rw [if_pos rfl, if_neg one_ne_zero32, if_neg one_ne_zero32]
  rw [E15, E55, E68]
  have eA : (if H = 1 ∧ L = 1 ∧ ¬ D = 1 ∧ ¬ K = 5 then 0 else (if D = 0 then (if H = 3 then A else A + 1) else A)) = gA K A H L D := by
    unfold gA
    rcases hH with rfl | ⟨rfl | rfl, hL, hw⟩ | rfl
    · simp [i_01, i_03]
    · by_cases z1 : L = 1
      · by_cases z2 : K = 5
        · rcases hD with rfl | rfl <;> simp [z1, z2, i_13, i_01]
        · rcases hD with rfl | rfl <;> simp [z1, z2, i_13, i_01]
      · simp [z1, i_13]
    · simp [i_21, i_23]
    · simp [i_31]
  rw [eA]
end DAYL
/-! PURE: a day, the reference's side -/
section DAYM
variable {σ : MS} {g : Nat → Int32} {c q t : Nat} {K A H L D S w v : Int32}
theorem MO0 (hc : c < 12) (eK : g (75 + 6 * c) = K) : FM_of (setR σ 5 (put4 g (76 + 6 * c) A H L D)) (nI c) 0 = some K := (p_of (setR σ 5 (put4 g (76 + 6 * c) A H L D)) (c := c) (f := 0) (by omega)).trans (congrArg some ((p4_out g (76 + 6 * c) A H L D (i := 75 + 6 * c + 0) (by omega)).trans eK))
theorem MO2 (hc : c < 12) : FM_of (setR σ 5 (put4 g (76 + 6 * c) A H L D)) (nI c) 2 = some A := (p_of (setR σ 5 (put4 g (76 + 6 * c) A H L D)) (c := c) (f := 2) (by omega)).trans (congrArg some (by rw [show 75 + 6 * c + 2 = 76 + 6 * c + 1 from by omega]; exact p4_1 g (76 + 6 * c) A H L D))
theorem MO3 (hc : c < 12) : FM_of (setR σ 5 (put4 g (76 + 6 * c) A H L D)) (nI c) 3 = some H := (p_of (setR σ 5 (put4 g (76 + 6 * c) A H L D)) (c := c) (f := 3) (by omega)).trans (congrArg some (by rw [show 75 + 6 * c + 3 = 76 + 6 * c + 2 from by omega]; exact p4_2 g (76 + 6 * c) A H L D))
theorem MO4 (hc : c < 12) : FM_of (setR σ 5 (put4 g (76 + 6 * c) A H L D)) (nI c) 4 = some L := (p_of (setR σ 5 (put4 g (76 + 6 * c) A H L D)) (c := c) (f := 4) (by omega)).trans (congrArg some (by rw [show 75 + 6 * c + 4 = 76 + 6 * c + 3 from by omega]; exact p4_3 g (76 + 6 * c) A H L D))
theorem MO5 (hc : c < 12) : FM_of (setR σ 5 (put4 g (76 + 6 * c) A H L D)) (nI c) 5 = some D := (p_of (setR σ 5 (put4 g (76 + 6 * c) A H L D)) (c := c) (f := 5) (by omega)).trans (congrArg some (by rw [show 75 + 6 * c + 5 = 76 + 6 * c + 4 from by omega]; exact p4_4 g (76 + 6 * c) A H L D))
theorem MP2 (hc : c < 12) : FM_becomes (setR σ 5 (put4 g (76 + 6 * c) A H L D)) (nI c) 2 v = some (setR σ 5 (put4 g (76 + 6 * c) v H L D)) := by
  rw [show FM_becomes (setR σ 5 (put4 g (76 + 6 * c) A H L D)) (nI c) 2 v = _ from p_bec _ (c := c) (f := 2) (by omega) v, setA_setR, show 75 + 6 * c + 2 = 76 + 6 * c + 1 from by omega, p4_u1]
theorem MP3 (hc : c < 12) : FM_becomes (setR σ 5 (put4 g (76 + 6 * c) A H L D)) (nI c) 3 v = some (setR σ 5 (put4 g (76 + 6 * c) A v L D)) := by
  rw [show FM_becomes (setR σ 5 (put4 g (76 + 6 * c) A H L D)) (nI c) 3 v = _ from p_bec _ (c := c) (f := 3) (by omega) v, setA_setR, show 75 + 6 * c + 3 = 76 + 6 * c + 2 from by omega, p4_u2]
theorem MP4 (hc : c < 12) : FM_becomes (setR σ 5 (put4 g (76 + 6 * c) A H L D)) (nI c) 4 v = some (setR σ 5 (put4 g (76 + 6 * c) A H v D)) := by
  rw [show FM_becomes (setR σ 5 (put4 g (76 + 6 * c) A H L D)) (nI c) 4 v = _ from p_bec _ (c := c) (f := 4) (by omega) v, setA_setR, show 75 + 6 * c + 4 = 76 + 6 * c + 3 from by omega, p4_u3]
theorem MP5 (hc : c < 12) : FM_becomes (setR σ 5 (put4 g (76 + 6 * c) A H L D)) (nI c) 5 v = some (setR σ 5 (put4 g (76 + 6 * c) A H L v)) := by
  rw [show FM_becomes (setR σ 5 (put4 g (76 + 6 * c) A H L D)) (nI c) 5 v = _ from p_bec _ (c := c) (f := 5) (by omega) v, setA_setR, show 75 + 6 * c + 5 = 76 + 6 * c + 4 from by omega, p4_u4]
theorem MTo (hc : c < 12) (hq : q < 6) (ey : g (76 + 6 * c) = nI q) (et : g (69 + q) = nI t) : FM_townOf (setR σ 5 (put4 g (76 + 6 * c) A H L D)) (nI c) = some (nI t) :=
  p_mtownOf _ hc hq (show put4 g (76 + 6 * c) A H L D (76 + 6 * c) = nI q from (p4_out _ _ _ _ _ _ (by omega)).trans ey) (show put4 g (76 + 6 * c) A H L D (69 + q) = nI t from (p4_out _ _ _ _ _ _ (by omega)).trans et)
theorem MFa (hc : c < 12) (ht : t < 8) (ew : g (5 + 8 * t) = w) : FM_farOf (setR σ 5 (put4 g (76 + 6 * c) A H L D)) (nI t) 0 = some w :=
  (p_farOf (setR σ 5 (put4 g (76 + 6 * c) A H L D)) (a := t) (b := 0) ht (by decide)).trans (congrArg some ((p4_out g (76 + 6 * c) A H L D (i := 5 + 8 * t + 0) (by omega)).trans ew))
theorem MSp (hc : c < 12) (eS : spanV (g (75 + 6 * c)) (g 0) = S) : FM_spanOf (setR σ 5 (put4 g (76 + 6 * c) A H L D)) (nI c) = some S := by
  rw [p_mspan _ hc]
  show some (spanV (put4 g (76 + 6 * c) A H L D (75 + 6 * c)) (put4 g (76 + 6 * c) A H L D 0)) = _
  rw [p4_out _ _ _ _ _ _ (by omega), p4_out _ _ _ _ _ _ (by omega), eS]
theorem M_goes (hc : c < 12) (hq : q < 6) (ht : t < 8) (ey : g (76 + 6 * c) = nI q) (et : g (69 + q) = nI t) (ew : (H = 1 ∨ H = 2) → g (5 + 8 * t) = w) (eK : g (75 + 6 * c) = K) (hD : D = 0 ∨ D = 1) (hH : OKH K H L D w) : FM_goesOn (setR σ 5 (put4 g (76 + 6 * c) A H L D)) (nI c) = some (setR σ 5 (put4 g (76 + 6 * c) (gA K A H L D) (gH K H L D) (gL K H L D w) D)) := by
  have T := fun A H L D => MTo (σ := σ) (g := g) (c := c) (A := A) (H := H) (L := L) (D := D) hc hq ey et
  have F := fun A H L D => MO0 (σ := σ) (g := g) (c := c) (A := A) (H := H) (L := L) (D := D) hc eK
  have E33 : ∀ A, FM_goesOn_33 (setR σ 5 (put4 g (76 + 6 * c) A H L D)) (nI c) = some (setR σ 5 (put4 g (76 + 6 * c) (if H = 1 ∧ L = 1 ∧ ¬ D = 1 ∧ ¬ K = 5 then 0 else A) (gH K H L D) (gL K H L D w) D)) := by
    intro A
    unfold FM_goesOn_33 FM_goesOn_53 FM_arrives FM_arrives_40 gH gL
    rcases hH with rfl | ⟨hH, hL, hw⟩ | rfl
    · simp [MO3 hc, i_01, i_02]
    · have I := fun A H L D => MFa (σ := σ) (g := g) (c := c) (A := A) (H := H) (L := L) (D := D) hc ht (ew hH)
      by_cases hL1 : L = 1
      · subst hL1
        rcases hD with rfl | rfl <;> rcases hH with rfl | rfl <;> by_cases hK : K = 5 <;>
          simp [MO2 hc, MO3 hc, MO4 hc, MO5 hc, MP2 hc, MP3 hc, MP4 hc, MP5 hc, F, T, I, i_s11, i_01, i_12, i_21, hK]
      · obtain ⟨n1, n2⟩ := i_L hL hL1
        rcases hH with rfl | rfl <;>
          simp [MO2 hc, MO3 hc, MO4 hc, MO5 hc, MP2 hc, MP3 hc, MP4 hc, MP5 hc, n2, hL1, i_21]
    · simp [MO3 hc, i_31, i_32]
  have eA : (if H = 1 ∧ L = 1 ∧ ¬ D = 1 ∧ ¬ K = 5 then 0 else (if D = 0 then (if H = 3 then A else A + 1) else A)) = gA K A H L D := by
    unfold gA
    rcases hH with rfl | ⟨rfl | rfl, hL, hw⟩ | rfl
    · simp [i_01, i_03]
    · by_cases z1 : L = 1
      · by_cases z2 : K = 5
        · rcases hD with rfl | rfl <;> simp [z1, z2, i_13, i_01]
        · rcases hD with rfl | rfl <;> simp [z1, z2, i_13, i_01]
      · simp [z1, i_13]
    · simp [i_21, i_23]
    · simp [i_31]
  rw [← eA, ← E33]
  unfold FM_goesOn
  rw [MO5 hc, Option.bind_some]
  rcases hD with rfl | rfl
  · rw [if_pos rfl, MO3 hc, Option.bind_some, if_pos rfl]
    by_cases h3 : H = 3
    · rw [if_pos h3, if_pos h3]
    · rw [if_neg h3, if_neg h3, MO2 hc, Option.bind_some, MP2 hc, Option.bind_some]
  · rw [if_neg one_ne_zero32, if_neg one_ne_zero32]
theorem M_fall (hc : c < 12) (eK : g (75 + 6 * c) = K) (eS : spanV (g (75 + 6 * c)) (g 0) = S) (hD : D = 0 ∨ D = 1) {N : Nat} (e3 : g 3 = nI N) (hN : c < N) (hN2 : N ≤ 12) (ag : MS → Int32 → Int32 → Int32 → Option (Int32 × MS)) (n : Nat) (l1 l2 l3 : Int32) : FM_days_99 ag (n + 1) (setR σ 5 (put4 g (76 + 6 * c) A H L D)) l1 l2 l3 (nI c) = FM_days_99 ag n (setR σ 5 (put4 g (76 + 6 * c) A H L (gD K A D S))) l1 (l2 ||| gB K A D S c) l3 (nI (c + 1)) := by
  have F := MO0 (σ := σ) (g := g) (c := c) (A := A) (H := H) (L := L) (D := D) hc eK
  have Sp := MSp (σ := σ) (g := g) (c := c) (A := A) (H := H) (L := L) (D := D) hc eS
  have hge : ¬ nI N ≤ nI c := nI_ge hN (by omega)
  conv => lhs; unfold FM_days_99 FM_days_162
  rw [gd_t (by decide), show Int32.toNatClampNeg 3 = 3 from by decide, show (setR σ 5 (put4 g (76 + 6 * c) A H L D)).2 5 3 = nI N from (p4_out g (76 + 6 * c) A H L D (i := 3) (by omega)).trans e3, if_neg hge]
  unfold gD gB
  rcases hD with rfl | rfl
  · by_cases hK : K = 5
    · simp [MO5 hc, F, hK, nm, nI_succ]
    · by_cases hA : A ≤ S
      · simp [MO5 hc, MO2 hc, F, Sp, hK, hA, nm, nI_succ]
      · simp [MO5 hc, MO2 hc, MP5 hc, F, Sp, hK, hA, nm, nI_succ]
  · simp [MO5 hc, nm, nI_succ]
end DAYM
/-- the day's values -/
def wW (σL : MS) (z : Nat → Int32) (j : Nat) : Int32 := σL.2 0 (8 * (σL.2 1 (z (5 * j)).toNatClampNeg).toNatClampNeg)
def a1 (σL : MS) (z : Nat → Int32) (j : Nat) : Int32 := gA (σL.2 2 j) (z (5 * j + 1)) (z (5 * j + 2)) (z (5 * j + 3)) (z (5 * j + 4))
def v1 (σL : MS) (z : Nat → Int32) (j : Nat) : Int32 × Int32 × Int32 × Int32 := (a1 σL z j, gH (σL.2 2 j) (z (5 * j + 2)) (z (5 * j + 3)) (z (5 * j + 4)), gL (σL.2 2 j) (z (5 * j + 2)) (z (5 * j + 3)) (z (5 * j + 4)) (wW σL z j), z (5 * j + 4))
def v2 (σL : MS) (z : Nat → Int32) (j : Nat) : Int32 × Int32 × Int32 × Int32 := (a1 σL z j, gH (σL.2 2 j) (z (5 * j + 2)) (z (5 * j + 3)) (z (5 * j + 4)), gL (σL.2 2 j) (z (5 * j + 2)) (z (5 * j + 3)) (z (5 * j + 4)) (wW σL z j), gD (σL.2 2 j) (a1 σL z j) (z (5 * j + 4)) (spanV (σL.2 2 j) (σL.1 5)))
def fb (σL : MS) (z : Nat → Int32) : Nat → Int32
  | 0 => 0
  | c + 1 => fb σL z c ||| gB (σL.2 2 c) (a1 σL z c) (z (5 * c + 4)) (spanV (σL.2 2 c) (σL.1 5)) c
/-- what is known of each coin as the day begins -/
def CD (σL : MS) (z g : Nat → Int32) (N : Nat) : Prop := N ≤ 12 ∧ σL.1 7 = nI N ∧ g 3 = nI N ∧ ∀ j, j < N → ∃ q t : Nat, q < 6 ∧ t < 8 ∧ z (5 * j) = nI q ∧ σL.2 1 q = nI t ∧ σL.2 0 t = wW σL z j ∧ (z (5 * j + 4) = 0 ∨ z (5 * j + 4) = 1) ∧ OKH (σL.2 2 j) (z (5 * j + 2)) (z (5 * j + 3)) (z (5 * j + 4)) (wW σL z j) ∧
  g (75 + 6 * j) = σL.2 2 j ∧ g (76 + 6 * j) = nI q ∧ g (69 + q) = nI t ∧ ((z (5 * j + 2) = 1 ∨ z (5 * j + 2) = 2) → g (5 + 8 * t) = wW σL z j) ∧ g 0 = σL.1 5
theorem dayL_loop {σL : MS} {z g : Nat → Int32} {N : Nat} (h : CD σL z g N) (n : Nat) : ∀ (d c : Nat) (y : Nat → Int32), c + d = N → (∀ j, j < N → V4 y (5 * j) = if j < c then v2 σL z j else V4 z (5 * j)) → (∀ i, (∀ j, j < N → ¬ (5 * j + 1 ≤ i ∧ i ≤ 5 * j + 4)) → y i = z i) →
    ∃ y', FL_liveDay_15 (n + d + 1) (setR σL 3 y) (fb σL z c) (nI c) = some (fb σL z N, setR σL 3 y') ∧ (∀ j, j < N → V4 y' (5 * j) = v2 σL z j) ∧ (∀ i, (∀ j, j < N → ¬ (5 * j + 1 ≤ i ∧ i ≤ 5 * j + 4)) → y' i = z i) := by
  obtain ⟨hN, e7, -, hj⟩ := h
  intro d
  induction d with
  | zero =>
    intro c y hc hv hf
    obtain rfl : c = N := by omega
    refine ⟨y, ?_, fun j hj => by rw [hv j hj, if_pos hj], hf⟩
    conv => lhs; unfold FL_liveDay_15
    rw [show (setR σL 3 y).1 7 = nI c from e7, if_pos (nI_le (by omega) (by omega))]
  | succ d ih =>
    intro c y hc hv hf
    obtain ⟨q, t, hq, ht, ez, et, ew, hD, hH, -⟩ := hj c (by omega)
    have ec := hv c (by omega)
    rw [if_neg (by omega)] at ec
    have ey : y (5 * c) = nI q := (hf (5 * c) (fun j _ => by omega)).trans ez
    have st := dayL_step (σL := σL) (y := y) (c := c) (A := z (5 * c + 1)) (by omega) hq ht ey et ew rfl rfl hD hH (by rw [e7]; exact nI_ge (by omega) (by omega)) (n + d + 1) (fb σL z c)
    rw [p4_id y (5 * c) _ _ _ _ ec] at st
    rw [show n + (d + 1) + 1 = n + d + 1 + 1 from by omega, st]
    refine ih (c + 1) _ (by omega) (fun j hjN => ?_) (fun i hi => ?_)
    · by_cases hjc : j = c
      · subst hjc
        rw [p4_V, if_pos (by omega)]
        rfl
      · rw [p4_Vo _ _ _ _ _ _ (by omega), hv j hjN]
        by_cases hlt : j < c
        · rw [if_pos hlt, if_pos (by omega)]
        · rw [if_neg hlt, if_neg (by omega)]
    · rw [p4_out _ _ _ _ _ _ (hi c (by omega))]
      exact hf i hi
theorem goes_loop {σL σ : MS} {z g : Nat → Int32} {N : Nat} (h : CD σL z g N) (ag : MS → Int32 → Int32 → Int32 → Option (Int32 × MS)) (l1 l2 l3 : Int32) (n : Nat) : ∀ (d c : Nat) (y : Nat → Int32), c + d = N → (∀ j, j < N → V4 y (76 + 6 * j) = if j < c then v1 σL z j else V4 z (5 * j)) → (∀ i, (∀ j, j < N → ¬ (76 + 6 * j + 1 ≤ i ∧ i ≤ 76 + 6 * j + 4)) → y i = g i) →
    ∃ y', FM_days_73 ag (n + d + 1) (setR σ 5 y) l1 l2 l3 (nI c) = FM_days_99 ag fuelN (setR σ 5 y') l1 l2 l3 0 ∧ (∀ j, j < N → V4 y' (76 + 6 * j) = v1 σL z j) ∧ (∀ i, (∀ j, j < N → ¬ (76 + 6 * j + 1 ≤ i ∧ i ≤ 76 + 6 * j + 4)) → y' i = g i) := by
  obtain ⟨hN, -, e3, hj⟩ := h
  intro d
  induction d with
  | zero =>
    intro c y hc hv hf
    obtain rfl : c = N := by omega
    refine ⟨y, ?_, fun j hj => by rw [hv j hj, if_pos hj], hf⟩
    conv => lhs; unfold FM_days_73
    rw [gd_t (by decide), show Int32.toNatClampNeg 3 = 3 from by decide, show (setR σ 5 y).2 5 3 = nI c from (hf 3 (fun j _ => by omega)).trans e3, if_pos (nI_le (by omega) (by omega))]
  | succ d ih =>
    intro c y hc hv hf
    obtain ⟨q, t, hq, ht, -, -, -, hD, hH, gK, gq, gt, gw, -⟩ := hj c (by omega)
    have ec := hv c (by omega)
    rw [if_neg (by omega)] at ec
    have st := M_goes (σ := σ) (g := y) (c := c) (A := z (5 * c + 1)) (by omega) hq ht ((hf (76 + 6 * c) (fun j _ => by omega)).trans gq) ((hf (69 + q) (fun j _ => by omega)).trans gt) (fun x => (hf (5 + 8 * t) (fun j _ => by omega)).trans (gw x)) ((hf (75 + 6 * c) (fun j _ => by omega)).trans gK) hD hH
    rw [p4_id y (76 + 6 * c) _ _ _ _ ec] at st
    have M0 : FM_days_73 ag (n + (d + 1) + 1) (setR σ 5 y) l1 l2 l3 (nI c) = FM_days_73 ag (n + d + 1) (setR σ 5 (put4 y (76 + 6 * c) (gA (σL.2 2 c) (z (5 * c + 1)) (z (5 * c + 2)) (z (5 * c + 3)) (z (5 * c + 4))) (gH (σL.2 2 c) (z (5 * c + 2)) (z (5 * c + 3)) (z (5 * c + 4))) (gL (σL.2 2 c) (z (5 * c + 2)) (z (5 * c + 3)) (z (5 * c + 4)) (wW σL z c)) (z (5 * c + 4)))) l1 l2 l3 (nI (c + 1)) := by
      conv => lhs; unfold FM_days_73
      rw [gd_t (by decide), show Int32.toNatClampNeg 3 = 3 from by decide, show (setR σ 5 y).2 5 3 = nI N from (hf 3 (fun j _ => by omega)).trans e3, if_neg (nI_ge (by omega) (by omega)), st, nI_succ]
      rfl
    rw [M0]
    refine ih (c + 1) _ (by omega) (fun j hjN => ?_) (fun i hi => ?_)
    · by_cases hjc : j = c
      · subst hjc
        rw [p4_V, if_pos (by omega)]
        rfl
      · rw [p4_Vo _ _ _ _ _ _ (by omega), hv j hjN]
        by_cases hlt : j < c
        · rw [if_pos hlt, if_pos (by omega)]
        · rw [if_neg hlt, if_neg (by omega)]
    · rw [p4_out _ _ _ _ _ _ (hi c (by omega))]
      exact hf i hi
theorem fall_loop {σL σ : MS} {z g : Nat → Int32} {N : Nat} (h : CD σL z g N) (ag : MS → Int32 → Int32 → Int32 → Option (Int32 × MS)) (l1 l2 l3 : Int32) (n : Nat) : ∀ (d c : Nat) (y : Nat → Int32), c + d = N → (∀ j, j < N → V4 y (76 + 6 * j) = if j < c then v2 σL z j else v1 σL z j) → (∀ i, (∀ j, j < N → ¬ (76 + 6 * j + 1 ≤ i ∧ i ≤ 76 + 6 * j + 4)) → y i = g i) →
    ∃ y', FM_days_99 ag (n + d + 1) (setR σ 5 y) l1 (l2 ||| fb σL z c) l3 (nI c) = ag (setR σ 5 y') l1 (l2 ||| fb σL z N) (l3 + 1) ∧ (∀ j, j < N → V4 y' (76 + 6 * j) = v2 σL z j) ∧ (∀ i, (∀ j, j < N → ¬ (76 + 6 * j + 1 ≤ i ∧ i ≤ 76 + 6 * j + 4)) → y' i = g i) := by
  obtain ⟨hN, -, e3, hj⟩ := h
  intro d
  induction d with
  | zero =>
    intro c y hc hv hf
    obtain rfl : c = N := by omega
    refine ⟨y, ?_, fun j hj => by rw [hv j hj, if_pos hj], hf⟩
    conv => lhs; unfold FM_days_99
    rw [gd_t (by decide), show Int32.toNatClampNeg 3 = 3 from by decide, show (setR σ 5 y).2 5 3 = nI c from (hf 3 (fun j _ => by omega)).trans e3, if_pos (nI_le (by omega) (by omega))]
    rfl
  | succ d ih =>
    intro c y hc hv hf
    obtain ⟨q, t, hq, ht, -, -, -, hD, hH, gK, gq, gt, gw, g0⟩ := hj c (by omega)
    have ec := hv c (by omega)
    rw [if_neg (by omega)] at ec
    have yK := (hf (75 + 6 * c) (fun j _ => by omega)).trans gK
    have st := M_fall (σ := σ) (g := y) (c := c) (S := spanV (σL.2 2 c) (σL.1 5)) (A := a1 σL z c) (H := gH (σL.2 2 c) (z (5 * c + 2)) (z (5 * c + 3)) (z (5 * c + 4))) (L := gL (σL.2 2 c) (z (5 * c + 2)) (z (5 * c + 3)) (z (5 * c + 4)) (wW σL z c)) (by omega) yK (by rw [yK, (hf 0 (fun j _ => by omega)).trans g0]) hD (N := N) ((hf 3 (fun j _ => by omega)).trans e3) (by omega) hN ag (n + d + 1) l1 (l2 ||| fb σL z c) l3
    rw [p4_id y (76 + 6 * c) _ _ _ _ ec, Int32.or_assoc] at st
    rw [show n + (d + 1) + 1 = n + d + 1 + 1 from by omega, st]
    refine ih (c + 1) _ (by omega) (fun j hjN => ?_) (fun i hi => ?_)
    · by_cases hjc : j = c
      · subst hjc
        rw [p4_V, if_pos (by omega)]
        rfl
      · rw [p4_Vo _ _ _ _ _ _ (by omega), hv j hjN]
        by_cases hlt : j < c
        · rw [if_pos hlt, if_pos (by omega)]
        · rw [if_neg hlt, if_neg (by omega)]
    · rw [p4_out _ _ _ _ _ _ (hi c (by omega))]
      exact hf i hi
/-! PURE: days -/
theorem gA_or (K A H L D : Int32) : gA K A H L D = 0 ∨ gA K A H L D = A ∨ gA K A H L D = A + 1 := by
  unfold gA
  repeat' split
  all_goals first
    | exact Or.inl rfl
    | exact Or.inr (Or.inl rfl)
    | exact Or.inr (Or.inr rfl)
theorem real_cd {k : Nat} {σL : MS} {z g : Nat → Int32} (h : RReal k (σL.1 4) (σL.1 5) (σL.1 6) (σL.1 7) (σL.2 0) (σL.2 1) (σL.2 2) z g) (h1 : σL.1 4 = 1) (x y : Int32) : ∃ N, CD σL (upd z 60 x) (upd g 4 y) N := by
  obtain ⟨N, hN, e1, e2⟩ := h.num
  refine ⟨N, hN, e1, (pk_un (by decide)).trans e2, fun j hj => ?_⟩
  have hl : nI j < σL.1 7 := by rw [e1]; exact nI_lt hj (by omega)
  obtain ⟨q, t, hq, ht1, ht7, c1, c2, -, c3, c4⟩ := h.cf (by omega) hl
  obtain ⟨-, ⟨b0, -⟩, -, -, h5, -, h7⟩ := h
  obtain ⟨g1, -, -, -, g5, g6⟩ := h7 j (by omega) hl
  obtain ⟨w1, w2, -⟩ := h5 h1 t 0 (by omega) (by decide)
  rw [c1, nI_clamp (by omega), c3, nI_clamp (by omega)] at g6
  have eW : wW σL (upd z 60 x) j = σL.2 0 (8 * t) := by
    unfold wW
    rw [pk_un (by omega), c1, nI_clamp (by omega), c3, nI_clamp (by omega)]
  rw [Nat.add_zero, Nat.add_zero] at w1
  rw [Nat.add_zero, Nat.mul_zero, Nat.zero_add] at w2
  refine ⟨q, t, hq, by omega, (pk_un (by omega)).trans c1, c3, by rw [eW, w2], ?_, ?_, (pk_un (by omega)).trans g1.1.symm, (pk_un (by omega)).trans c2, (pk_un (by omega)).trans c4, fun hu => ?_, (pk_un (by decide)).trans b0.symm⟩
  · rw [pk_un (by omega)]; exact g5
  · rw [pk_un (by omega), pk_un (by omega), pk_un (by omega), eW]
    rcases g6 with ⟨s1, s2⟩ | ⟨s1, s2, s3, s4⟩ | ⟨s1, s2⟩
    · exact Or.inl s1
    · exact Or.inr (Or.inl ⟨s1, s2, s4⟩)
    · exact Or.inr (Or.inr s1)
  · rw [pk_un (by omega)] at hu
    rw [pk_un (by omega), eW]
    rcases g6 with ⟨s1, s2⟩ | ⟨s1, s2, s3, s4⟩ | ⟨s1, s2⟩
    · rcases hu with y | y <;> rw [y] at s1 <;> exact absurd s1 (by decide)
    · exact (w1.low s4).1.symm
    · rcases hu with y | y <;> rw [y] at s1 <;> exact absurd s1 (by decide)
theorem real_day {k : Nat} {σL : MS} {z g z' g' : Nat → Int32} (h : RReal k (σL.1 4) (σL.1 5) (σL.1 6) (σL.1 7) (σL.2 0) (σL.2 1) (σL.2 2) z g) (h1 : σL.1 4 = 1) (hd : (g 4).toInt + 1 ≤ 9999) {N : Nat} (e1 : σL.1 7 = nI N) (hN : N ≤ 12)
    (hz : ∀ i, (∀ j, j < N → ¬ (5 * j + 1 ≤ i ∧ i ≤ 5 * j + 4)) → z' i = upd z 60 (z 60 + 1) i) (hg : ∀ i, (∀ j, j < N → ¬ (76 + 6 * j + 1 ≤ i ∧ i ≤ 76 + 6 * j + 4)) → g' i = upd g 4 (g 4 + 1) i)
    (hv : ∀ j, j < N → V4 z' (5 * j) = v2 σL (upd z 60 (z 60 + 1)) j) (hw : ∀ j, j < N → V4 g' (76 + 6 * j) = v2 σL (upd z 60 (z 60 + 1)) j) : RReal k (σL.1 4) (σL.1 5) (σL.1 6) (σL.1 7) (σL.2 0) (σL.2 1) (σL.2 2) z' g' := by
  have hcf := fun {j : Nat} (hj : j < 12) (hl : nI j < σL.1 7) => h.cf hj hl
  obtain ⟨i1, ⟨b0, b2, b3, b4⟩, ⟨m1, m2, m3, m4, m5, m6, m7, m8⟩, i4, i5, i6, i7⟩ := h
  have e0 : (0 : Int32).toInt = 0 := by decide
  have e1' : (1 : Int32).toInt = 1 := by decide
  have e9 : (9999 : Int32).toInt = 9999 := by decide
  have e4 : (400 : Int32).toInt = 400 := by decide
  rw [Int32.le_iff_toInt_le] at m7 m8
  have s4 : (g 4 + 1).toInt = (g 4).toInt + 1 := by
    have := i32_add_toInt (a := g 4) (b := 1) (by omega) (by omega)
    rw [this, e1']
  have G : ∀ i, i < 76 → i ≠ 4 → g' i = g i := fun i hi h4 => (hg i (fun j _ => by omega)).trans (pk_un h4)
  have G4 : g' 4 = g 4 + 1 := (hg 4 (fun j _ => by omega)).trans pk_us
  have Z6 : z' 60 = z 60 + 1 := (hz 60 (fun j _ => by omega)).trans pk_us
  refine ⟨i1, ⟨by rw [G 0 (by decide) (by decide)]; exact b0, by rw [G 2 (by decide) (by decide)]; exact b2, by rw [G 3 (by decide) (by decide)]; exact b3, by rw [Z6, G4, b4]⟩, ⟨m1, m2, m3, m4, m5, m6, ?_, ?_⟩, i4, fun ht p q hp hq => ?_, fun i hi hl => ?_, fun j hj hl => ?_⟩
  · rw [G4, Int32.le_iff_toInt_le]; omega
  · rw [G4, Int32.le_iff_toInt_le]; omega
  · rw [G _ (show 5 + 8 * p + q < 76 by omega) (by omega)]
    exact i5 ht p q hp hq
  · rw [G _ (by omega) (by omega)]
    exact i6 i hi hl
  · have hjN : j < N := by
      rw [e1] at hl
      exact (nI_ltI (by omega) (by omega)).mp hl
    obtain ⟨q, t, hq, ht1, ht7, c1, c2, -, c3, c4⟩ := hcf hj hl
    obtain ⟨f1, f2, f3, f4, f5, f6⟩ := i7 j hj hl
    obtain ⟨w1, w2, w3⟩ := i5 h1 t 0 (by omega) (by decide)
    have w3 := w3 (by omega)
    rw [Nat.add_zero, Nat.add_zero] at w1
    rw [Nat.add_zero] at w3
    rw [c1, nI_clamp (by omega), c3, nI_clamp (by omega)] at f6
    have zq : z' (5 * j) = z (5 * j) := (hz (5 * j) (fun i _ => by omega)).trans (pk_un (by omega))
    have gq : g' (76 + 6 * j) = g (76 + 6 * j) := (hg (76 + 6 * j) (fun i _ => by omega)).trans (pk_un (by omega))
    have gK : g' (75 + 6 * j) = g (75 + 6 * j) := (hg (75 + 6 * j) (fun i _ => by omega)).trans (pk_un (by omega))
    have Vz := hv j hjN
    have Vg := hw j hjN
    have eW : wW σL (upd z 60 (z 60 + 1)) j = σL.2 0 (8 * t) := by
      unfold wW
      rw [pk_un (by omega), c1, nI_clamp (by omega), c3, nI_clamp (by omega)]
    unfold V4 v2 a1 at Vz Vg
    rw [pk_un (show 5 * j + 1 ≠ 60 by omega), pk_un (show 5 * j + 2 ≠ 60 by omega), pk_un (show 5 * j + 3 ≠ 60 by omega), pk_un (show 5 * j + 4 ≠ 60 by omega), eW] at Vz Vg
    simp only [Prod.mk.injEq] at Vz Vg
    obtain ⟨z1, z2, z3, z4⟩ := Vz
    obtain ⟨y1, y2, y3, y4⟩ := Vg
    refine ⟨⟨by rw [gK]; exact f1.1, f1.2⟩, fun f hf => ?_, by rw [zq]; exact f3, ?_, ?_, ?_⟩
    · rcases (show f = 0 ∨ f = 1 ∨ f = 2 ∨ f = 3 ∨ f = 4 by omega) with rfl | rfl | rfl | rfl | rfl
      · rw [Nat.add_zero, Nat.add_zero, zq, gq]
        have := f2 0 (by decide)
        rw [Nat.add_zero, Nat.add_zero] at this
        exact this
      · rw [z1, y1]
      · rw [z2, y2]
      · rw [z3, y3]
      · rw [z4, y4]
    · rw [z1, G4]
      obtain ⟨a0, aB⟩ := f4
      rw [Int32.le_iff_toInt_le] at a0 aB
      have s400 : (400 + g 4).toInt = 400 + (g 4).toInt := by
        have := i32_add_toInt (a := 400) (b := g 4) (by omega) (by omega)
        rw [this, e4]
      have s401 : (400 + (g 4 + 1)).toInt = 401 + (g 4).toInt := by
        have := i32_add_toInt (a := 400) (b := g 4 + 1) (by omega) (by omega)
        rw [this, e4, s4]
        omega
      have sA : (z (5 * j + 1) + 1).toInt = (z (5 * j + 1)).toInt + 1 := by
        have := i32_add_toInt (a := z (5 * j + 1)) (b := 1) (by omega) (by omega)
        rw [this, e1']
      rw [Int32.le_iff_toInt_le, Int32.le_iff_toInt_le, s401]
      rcases gA_or (σL.2 2 j) (z (5 * j + 1)) (z (5 * j + 2)) (z (5 * j + 3)) (z (5 * j + 4)) with y | y | y
      · rw [y]; omega
      · rw [y]; omega
      · rw [y, sA]; omega
    · rw [z4]
      unfold gD
      repeat' split
      all_goals first
        | exact Or.inl rfl
        | exact Or.inr rfl
    · rw [z2, z3, z4, zq, c1, nI_clamp (by omega), c3, nI_clamp (by omega)]
      rcases f6 with ⟨s1, s2⟩ | ⟨s1, s2, s3, s4⟩ | ⟨s1, s2, s3⟩
      · refine Or.inl ⟨?_, ?_⟩
        · unfold gH
          rw [s1, if_neg i_01, if_neg i_02]
        · unfold gL
          rw [s1, if_neg i_01, if_neg i_02, s2]
      · obtain ⟨l1, l2, l3⟩ := w1.low s4
        rw [Int32.le_iff_toInt_le, e1'] at w3
        by_cases hL : z (5 * j + 3) = 1
        · rcases s1 with s1 | s1
          · by_cases hD : z (5 * j + 4) = 1
            · refine Or.inr (Or.inr ⟨?_, ?_, Or.inl ?_⟩)
              · unfold gH
                rw [if_pos s1, if_pos hL, if_pos hD]
              · unfold gL
                rw [if_pos s1, if_pos hL, if_pos hD]
              · unfold gD
                rw [hD, if_neg one_ne_zero32]
            · by_cases hK : σL.2 2 j = 5
              · refine Or.inr (Or.inr ⟨?_, ?_, Or.inr hK⟩)
                · unfold gH
                  rw [if_pos s1, if_pos hL, if_neg hD, if_pos hK]
                · unfold gL
                  rw [if_pos s1, if_pos hL, if_neg hD, if_pos hK]
              · have eH : gH (σL.2 2 j) (z (5 * j + 2)) (z (5 * j + 3)) (z (5 * j + 4)) = 2 := by
                  unfold gH
                  rw [if_pos s1, if_pos hL, if_neg hD, if_neg hK]
                have eL : gL (σL.2 2 j) (z (5 * j + 2)) (z (5 * j + 3)) (z (5 * j + 4)) (σL.2 0 (8 * t)) = σL.2 0 (8 * t) := by
                  unfold gL
                  rw [if_pos s1, if_pos hL, if_neg hD, if_neg hK]
                rw [eH, eL]
                exact Or.inr (Or.inl ⟨Or.inr rfl, w3, by omega, s4⟩)
          · refine Or.inl ⟨?_, ?_⟩
            · unfold gH
              rw [s1, if_neg i_21, if_pos rfl, if_pos hL]
            · unfold gL
              rw [s1, if_neg i_21, if_pos rfl, if_pos hL]
        · have hne : (z (5 * j + 3)).toInt ≠ 1 := fun y => hL (Int32.toInt_inj.mp (y.trans e1'.symm))
          have sL : (z (5 * j + 3) - 1).toInt = (z (5 * j + 3)).toInt - 1 := by
            have hu := Int32.toInt_lt (z (5 * j + 3))
            have := i32_sub_toInt (a := z (5 * j + 3)) (b := 1) (by omega) (by omega)
            rw [this, e1']
          have eL : gL (σL.2 2 j) (z (5 * j + 2)) (z (5 * j + 3)) (z (5 * j + 4)) (σL.2 0 (8 * t)) = z (5 * j + 3) - 1 := by
            unfold gL
            rcases s1 with s1 | s1
            · rw [if_pos s1, if_neg hL]
            · rw [s1, if_neg i_21, if_pos rfl, if_neg hL]
          have eH : gH (σL.2 2 j) (z (5 * j + 2)) (z (5 * j + 3)) (z (5 * j + 4)) = z (5 * j + 2) := by
            unfold gH
            rcases s1 with s1 | s1
            · rw [if_pos s1, if_neg hL, s1]
            · rw [s1, if_neg i_21, if_pos rfl, if_neg hL]
          rw [eH, eL]
          exact Or.inr (Or.inl ⟨s1, by omega, by omega, s4⟩)
      · refine Or.inr (Or.inr ⟨?_, ?_, ?_⟩)
        · unfold gH
          rw [s1, if_neg i_31, if_neg i_32]
        · unfold gL
          rw [s1, if_neg i_31, if_neg i_32, s2]
        · rcases s3 with s3 | s3
          · left
            unfold gD
            rw [s3, if_neg one_ne_zero32]
          · exact Or.inr s3
theorem day_both {k : Nat} {σL σ : MS} {z : Nat → Int32} (h : RReal k (σL.1 4) (σL.1 5) (σL.1 6) (σL.1 7) (σL.2 0) (σL.2 1) (σL.2 2) z (σ.2 5)) (h1 : σL.1 4 = 1) (hd : (σ.2 5 4).toInt + 1 ≤ 9999) (n : Nat) (l1 l2 l3 : Int32) (hl : ¬ l1 ≤ l3) : ∃ (f : Int32) (z' g' : Nat → Int32), FL_liveDay (setR σL 3 z) = some (f, setR σL 3 z') ∧ FM_days_55 (n + 1) σ l1 l2 l3 = FM_days_55 n (setR σ 5 g') l1 (l2 ||| f) (l3 + 1) ∧ RReal k (σL.1 4) (σL.1 5) (σL.1 6) (σL.1 7) (σL.2 0) (σL.2 1) (σL.2 2) z' g' ∧ g' 4 = σ.2 5 4 + 1 := by
  obtain ⟨N, hC⟩ := real_cd h h1 (z 60 + 1) (σ.2 5 4 + 1)
  have hN := hC.1
  have e7 := hC.2.1
  have hrel : ∀ j, j < N → V4 (upd (σ.2 5) 4 (σ.2 5 4 + 1)) (76 + 6 * j) = V4 (upd z 60 (z 60 + 1)) (5 * j) := by
    intro j hj
    have f2 := (h.2.2.2.2.2.2 j (by omega) (by rw [e7]; exact nI_lt hj (by omega))).2.1
    unfold V4
    rw [pk_un (by omega), pk_un (by omega), pk_un (by omega), pk_un (by omega), pk_un (by omega), pk_un (by omega), pk_un (by omega), pk_un (by omega), f2 1 (by decide), f2 2 (by decide), f2 3 (by decide), f2 4 (by decide)]
  obtain ⟨z', p1, p2, p3⟩ := dayL_loop hC (4999 - N) N 0 (upd z 60 (z 60 + 1)) (by omega) (fun j hj => by rw [if_neg (by omega)]) (fun _ _ => rfl)
  obtain ⟨g1, q1, q2, q3⟩ := goes_loop (σ := σ) hC (FM_days_55 n) l1 l2 l3 (4999 - N) N 0 (upd (σ.2 5) 4 (σ.2 5 4 + 1)) (by omega) (fun j hj => by rw [if_neg (by omega)]; exact hrel j hj) (fun _ _ => rfl)
  obtain ⟨g', r1, r2, r3⟩ := fall_loop (σ := σ) hC (FM_days_55 n) l1 l2 l3 (4999 - N) N 0 g1 (by omega) (fun j hj => by rw [if_neg (by omega)]; exact q2 j hj) q3
  rw [show 4999 - N + N + 1 = fuelN from by show _ = 5000; omega] at p1 q1 r1
  refine ⟨fb σL (upd z 60 (z 60 + 1)) N, z', g', ?_, ?_, real_day h h1 hd e7 hN p3 r3 p2 r2, (r3 4 (fun j _ => by omega)).trans pk_us⟩
  · unfold FL_liveDay
    rw [gd_t (by decide), gd_t (by decide), show Int32.toNatClampNeg 60 = 60 from by decide]
    show FL_liveDay_15 fuelN (setA (setR σL 3 z) 3 60 (z 60 + 1)) 0 0 = _
    rw [setA_setR]
    exact p1
  · conv => lhs; unfold FM_days_55
    rw [if_neg hl, gd_t (by decide), gd_t (by decide), show Int32.toNatClampNeg 4 = 4 from by decide]
    show FM_days_73 (FM_days_55 n) fuelN (setR σ 5 (upd (σ.2 5) 4 (σ.2 5 4 + 1))) l1 l2 l3 0 = _
    rw [show FM_days_73 (FM_days_55 n) fuelN (setR σ 5 (upd (σ.2 5) 4 (σ.2 5 4 + 1))) l1 l2 l3 0 = _ from q1, ← r1]
    show FM_days_99 (FM_days_55 n) fuelN (setR σ 5 g1) l1 l2 l3 0 = FM_days_99 (FM_days_55 n) fuelN (setR σ 5 g1) l1 (l2 ||| 0) l3 0
    rw [Int32.or_zero]
theorem days_loop {k m : Nat} {σL σK σ0 : MS} (h1 : σL.1 4 = 1) (hm : m ≤ 99) (n : Nat) : ∀ (d c : Nat) (acc : Int32) (z : Nat → Int32) (σ : MS), c + d = m → SameM σ0 σ → (σ.1 1 = σ0.1 1 ∧ σ.1 12 = σ0.1 12 ∧ σ.1 9 = σ0.1 9 ∧ σ.2 8 = σ0.2 8) → (σ.2 5 4).toInt + d ≤ 9999 →
    RReal k (σL.1 4) (σL.1 5) (σL.1 6) (σL.1 7) (σL.2 0) (σL.2 1) (σL.2 2) z (σ.2 5) →
    ∃ (r : Int32) (z' : Nat → Int32) (σ' : MS), FP_days_62 (n + d + 1) (setR σL 3 z) σK (nI m) acc (nI c) = some (r, setR σL 3 z', σK) ∧ FM_days_55 (n + d + 1) σ (nI m) acc (nI c) = some (r, σ') ∧ SameM σ0 σ' ∧ (σ'.1 1 = σ0.1 1 ∧ σ'.1 12 = σ0.1 12 ∧ σ'.1 9 = σ0.1 9 ∧ σ'.2 8 = σ0.2 8) ∧ RReal k (σL.1 4) (σL.1 5) (σL.1 6) (σL.1 7) (σL.2 0) (σL.2 1) (σL.2 2) z' (σ'.2 5) := by
  intro d
  induction d with
  | zero =>
    intro c acc z σ hc hS hs hd hR
    refine ⟨acc, z, σ, ?_, ?_, hS, hs, hR⟩
    · conv => lhs; unfold FP_days_62
      rw [if_pos (nI_le (by omega) (by omega))]
    · conv => lhs; unfold FM_days_55
      rw [if_pos (nI_le (by omega) (by omega))]
  | succ d ih =>
    intro c acc z σ hc hS hs hd hR
    have hge : ¬ nI m ≤ nI c := nI_ge (by omega) (by omega)
    obtain ⟨f, z', g', p1, p2, p3, p4⟩ := day_both hR h1 (by omega) (n + d + 1) (nI m) acc (nI c) hge
    have L0 : FP_days_62 (n + (d + 1) + 1) (setR σL 3 z) σK (nI m) acc (nI c) = FP_days_62 (n + d + 1) (setR σL 3 z') σK (nI m) (acc ||| f) (nI (c + 1)) := by
      conv => lhs; unfold FP_days_62
      rw [if_neg hge, p1, nI_succ]
      rfl
    rw [← nI_succ] at p2
    rw [L0, show n + (d + 1) + 1 = n + d + 1 + 1 from by omega, p2]
    refine ih (c + 1) (acc ||| f) z' (setR σ 5 g') (by omega) (hS.trans (SameM.R5 _ _)) hs ?_ p3
    show (g' 4).toInt + d ≤ 9999
    have m7 := hR.2.2.1.2.2.2.2.2.2.1
    rw [Int32.le_iff_toInt_le] at m7
    have e0 : (0 : Int32).toInt = 0 := by decide
    have e1' : (1 : Int32).toInt = 1 := by decide
    have := i32_add_toInt (a := σ.2 5 4) (b := 1) (by omega) (by omega)
    rw [p4, this, e1']
    omega
theorem sim_days : Sim_days Rel := by
  intro k σP σL σG σR σT σC σA σK ω ι σ a1 hk h
  have hm := Rel.mono _ _ _ _ _ _ _ _ _ _ _ _ h
  have hh := hm
  obtain ⟨⟨p1, p2⟩, -, -, ⟨et, hR⟩, hA, -⟩ := hh
  by_cases h0 : σL.1 4 = 0
  · refine ⟨-1000002, σL, σK, setF σ 0 0, ?_, ?_, hm⟩
    · unfold FP_days
      rw [if_pos h0]
    · unfold FM_days
      show (if σ.1 7 = 0 then _ else _) = _
      rw [if_pos (by rw [← et]; exact h0)]
  have h1 : σL.1 4 = 1 := hR.1.resolve_left h0
  have h0' : ¬ σ.1 7 = 0 := by rw [← et]; exact h0
  by_cases hc : 1 ≤ a1 ∧ a1 ≤ 99
  · obtain ⟨m, hm9, rfl⟩ := nI_of2 (x := a1) (M := 99) (n := 99) (by decide) (fun z => by
      have := hc.1
      rw [Int32.le_iff_toInt_le] at this
      rw [Int32.lt_iff_toInt_lt] at z
      have e1 : (1 : Int32).toInt = 1 := by decide
      have e2 : (0 : Int32).toInt = 0 := by decide
      omega) hc.2
    have e60 : σL.2 3 60 = σ.2 5 4 := hR.2.1.2.2.2
    obtain ⟨e, he, ee⟩ := nI_of2 (x := σ.2 5 4) (M := 9999) (n := 9999) (by decide) (Int32.not_lt.mpr hR.2.2.1.2.2.2.2.2.2.1) hR.2.2.1.2.2.2.2.2.2.2
    have T0 : FL_today σL = some (nI e) := by
      unfold FL_today
      rw [gd_t (by decide), show Int32.toNatClampNeg 60 = 60 from by decide, e60, ee]
    by_cases hf : e + m ≤ 9999
    · have hle : nI (e + m) ≤ 9999 := nI_le (a := e + m) (b := 9999) hf (by decide)
      obtain ⟨σK', w, ac, K1, K2, K3⟩ := p_keep (σ := setF σ 0 0) hA hR h1
      obtain ⟨r, z', σ', i1, i2, i3, ⟨i4, i5, i6, i7⟩, i8⟩ := days_loop (σL := σL) (σK := σK') (σ0 := setF (setR (setF σ 0 0) 8 w) 9 ac) h1 hm9 (4999 - m) m 0 0 (σL.2 3) (setF (setR (setF σ 0 0) 8 w) 9 ac) (by omega) ⟨fun _ _ _ _ _ => rfl, fun _ _ _ => rfl⟩ ⟨rfl, rfl, rfl, rfl⟩ (by
        show (σ.2 5 4).toInt + m ≤ 9999
        rw [ee, nI_toInt (by omega)]
        omega) hR
      rw [show 4999 - m + m + 1 = fuelN from by show _ = 5000; omega] at i1 i2
      rw [setR_same σL 3 _ rfl] at i1
      refine ⟨r, setR σL 3 z', σK', σ', ?_, ?_, ?_⟩
      · unfold FP_days
        rw [if_neg h0, p_outside, if_pos hc, Option.bind_some, if_pos rfl, T0, Option.bind_some, nI_add, if_pos hle, K1, Option.bind_some]
        exact i1
      · unfold FM_days
        show (if σ.1 7 = 0 then _ else _) = _
        rw [if_neg h0', show FM_in (Int32.toInt64 (nI m)) 1 99 = _ from p_in (nI m) 1 99, if_pos hc, Option.bind_some, if_neg one_ne_zero32, gd_t (by decide), show Int32.toNatClampNeg 4 = 4 from by decide]
        show (if σ.2 5 4 + nI m ≤ 9999 then _ else _) = _
        rw [ee, nI_add, if_pos hle, K2, Option.bind_some]
        exact i2
      · refine h.kr (((SameM.F0 σ).trans (SameM.keep _ _ _)).trans i3) rfl ⟨by rw [i4]; exact p1, by rw [i5]; exact p2⟩ i8 ?_
        rw [i6, i7]
        exact K3
    · have hle : ¬ nI (e + m) ≤ 9999 := nI_ge (a := 9999) (b := e + m) (by omega) (by omega)
      refine ⟨-1000003, σL, σK, setF σ 0 0, ?_, ?_, hm⟩
      · unfold FP_days
        rw [if_neg h0, p_outside, if_pos hc, Option.bind_some, if_pos rfl, T0, Option.bind_some, nI_add, if_neg hle]
      · unfold FM_days
        show (if σ.1 7 = 0 then _ else _) = _
        rw [if_neg h0', show FM_in (Int32.toInt64 (nI m)) 1 99 = _ from p_in (nI m) 1 99, if_pos hc, Option.bind_some, if_neg one_ne_zero32, gd_t (by decide), show Int32.toNatClampNeg 4 = 4 from by decide]
        show (if σ.2 5 4 + nI m ≤ 9999 then _ else _) = _
        rw [ee, nI_add, if_neg hle]
  · refine ⟨-1000001, σL, σK, setF σ 0 0, ?_, ?_, hm⟩
    · unfold FP_days
      rw [if_neg h0, p_outside, if_neg hc]
      rfl
    · unfold FM_days
      show (if σ.1 7 = 0 then _ else _) = _
      rw [if_neg h0', show FM_in (Int32.toInt64 a1) 1 99 = _ from p_in a1 1 99, if_neg hc]
      rfl
/-! PURE: tour: orders one behind another -/
def cnt6 (b : Nat) : Nat → Nat
  | 0 => 0
  | i + 1 => cnt6 b i + b / 2 ^ i % 2
def PLf (f : Nat → List (List Nat)) (b : Nat) : Nat → Nat → List (List Nat)
  | 0, _ => []
  | c + 1, h => (if b / 2 ^ h % 2 = 1 then (f (b - 2 ^ h)).map (fun q => h :: q) else []) ++ PLf f b c (h + 1)
def PLs : Nat → Nat → List (List Nat)
  | 0, _ => [[]]
  | d + 1, b => PLf (PLs d) b 6 0
def lb6 (b : Nat) : Nat → List Nat
  | 0 => []
  | i + 1 => lb6 b i ++ (if b / 2 ^ i % 2 = 1 then [i] else [])
def trOf (p : List Nat) : MS := setR s0 20 (fun j => nI (p.getD j 0))
def eqT (σ : MS) : Nat → List Nat → Bool
  | _, [] => true
  | i, x :: q => decide (σ.2 20 i = nI x) && eqT σ (i + 1) q
def nxOK (p q : List Nat) : Bool := match FM_nextOrder (trOf p) (nI p.length) with
  | some x => decide (x.1 = 1) && eqT x.2 0 q
  | none => false
def nxEnd (p : List Nat) : Bool := match FM_nextOrder (trOf p) (nI p.length) with
  | some x => decide (x.1 = 0)
  | none => false
def chain : List (List Nat) → Bool
  | [] => false
  | p :: r => match r with
    | [] => nxEnd p
    | q :: _ => nxOK p q && chain r
def PLok (n b : Nat) (L : List (List Nat)) : Bool := L.all (fun p => decide (p.length = n) && p.all (fun x => decide (x < 6) && decide (b / 2 ^ x % 2 = 1))) && chain L && decide (L.head? = some (lb6 b 6)) && decide (L.length ≤ 720)
set_option maxRecDepth 100000 in
theorem PL_all : ∀ b, b < 64 → 1 ≤ b → PLok (cnt6 b 6) b (PLs (cnt6 b 6) b) = true := by decide +kernel
theorem eqT_spec {σ : MS} : ∀ (q : List Nat) (i : Nat), eqT σ i q = true → ∀ j, j < q.length → σ.2 20 (i + j) = nI (q.getD j 0) := by
  intro q
  induction q with
  | nil => intro i _ j hj; exact absurd hj (Nat.not_lt_zero j)
  | cons x q ih =>
    intro i h j hj
    have h : (decide (σ.2 20 i = nI x) && eqT σ (i + 1) q) = true := h
    rw [Bool.and_eq_true] at h
    cases j with
    | zero => exact of_decide_eq_true h.1
    | succ j =>
      have := ih (i + 1) h.2 j (by simpa using hj)
      rw [show i + (j + 1) = i + 1 + j from by omega, this]
      rfl
/-! what next() of orders needs: the first n alone -/
def Ag (n : Nat) (σ ρ : MS) : Prop := ∀ j, j < n → σ.2 20 j = ρ.2 20 j
def S20 (σ σ' : MS) : Prop := σ'.1 = σ.1 ∧ ∀ i, i ≠ 20 → σ'.2 i = σ.2 i
theorem S20.rf (σ : MS) : S20 σ σ := ⟨rfl, fun _ _ => rfl⟩
theorem S20.tr {a b c : MS} (h : S20 a b) (h' : S20 b c) : S20 a c := ⟨h'.1.trans h.1, fun i hi => (h'.2 i hi).trans (h.2 i hi)⟩
theorem S20.st (σ : MS) (i : Nat) (x : Int32) : S20 σ (setA σ 20 i x) := ⟨rfl, fun _ hi => va_up_ne _ _ hi⟩
theorem A20 (σ : MS) (i : Nat) (x : Int32) : (setA σ 20 i x).2 20 = upd (σ.2 20) i x := va_up_self σ.2 20 (upd (σ.2 20) i x)
theorem Ag.st {n : Nat} {σ ρ : MS} (h : Ag n σ ρ) (i : Nat) {x y : Int32} (e : x = y) : Ag n (setA σ 20 i x) (setA ρ 20 i y) := by
  intro j hj
  rw [A20, A20, e]
  unfold upd
  by_cases hi : j = i
  · rw [if_pos hi, if_pos hi]
  · rw [if_neg hi, if_neg hi]; exact h j hj
theorem no100 {n : Nat} : ∀ (f : Nat) (σ ρ : MS) (l5 l6 r : Int32) (ρ' : MS), Ag n σ ρ → l5.toInt < n → FM_nextOrder_100 f ρ l5 l6 = some (r, ρ') → ∃ σ', FM_nextOrder_100 f σ l5 l6 = some (r, σ') ∧ Ag n σ' ρ' ∧ S20 σ σ' := by
  intro f
  induction f with
  | zero => intro σ ρ l5 l6 r ρ' hA hl h; exact absurd h (by simp [FM_nextOrder_100])
  | succ f ih =>
    intro σ ρ l5 l6 r ρ' hA hl h
    rw [FM_nextOrder_100] at h ⊢
    by_cases hc : l5 ≤ l6
    · rw [if_pos hc] at h ⊢
      cases h
      exact ⟨σ, rfl, hA, S20.rf σ⟩
    · rw [if_neg hc] at h ⊢
      simp only [nm] at h ⊢
      obtain ⟨g1, h⟩ := gd_some h
      obtain ⟨g2, h⟩ := gd_some h
      obtain ⟨g3, h⟩ := gd_some h
      obtain ⟨g4, h⟩ := gd_some h
      rw [gd_t g1, gd_t g2, gd_t g3, gd_t g4]
      obtain ⟨a, ha, ea⟩ := vp_in_of (x := l6) (n := 6) g1 (by decide)
      obtain ⟨c, hc6, ec⟩ := vp_in_of (x := l5) (n := 6) g2 (by decide)
      subst ea ec
      rw [nI_toInt (by omega)] at hl
      have hac : a < c := by
        rcases Nat.lt_or_ge a c with z | z
        · exact z
        · exact absurd (nI_le z (by omega)) hc
      rw [nI_clamp (by omega), nI_clamp (by omega)] at h ⊢
      obtain ⟨c', rfl⟩ : ∃ c', c = c' + 1 := ⟨c - 1, by omega⟩
      rw [pk_m1] at h ⊢
      obtain ⟨σ', i1, i2, i3⟩ := ih (setA (setA σ 20 a (σ.2 20 (c' + 1))) 20 (c' + 1) (σ.2 20 a)) _ (nI c') (nI a + 1) r ρ' ((hA.st a (hA (c' + 1) (by omega))).st (c' + 1) (hA a (by omega))) (by rw [nI_toInt (by omega)]; omega) h
      exact ⟨σ', i1, i2, ((S20.st σ _ _).tr (S20.st _ _ _)).tr i3⟩
theorem no41 {n : Nat} (hn : n ≤ 6) (hn1 : 1 ≤ n) : ∀ (f : Nat) (σ ρ : MS) (l2 l3 r : Int32) (ρ' : MS), Ag n σ ρ → l2.toInt < n → l3.toInt < n → FM_nextOrder_41 f ρ (nI n) l2 l3 = some (r, ρ') → ∃ σ', FM_nextOrder_41 f σ (nI n) l2 l3 = some (r, σ') ∧ Ag n σ' ρ' ∧ S20 σ σ' := by
  intro f
  induction f with
  | zero => intro σ ρ l2 l3 r ρ' hA hl hl3 h; exact absurd h (by simp [FM_nextOrder_41])
  | succ f ih =>
    intro σ ρ l2 l3 r ρ' hA hl hl3 h
    rw [FM_nextOrder_41] at h ⊢
    simp only [nm] at h ⊢
    obtain ⟨g1, h⟩ := gd_some h
    obtain ⟨g2, h⟩ := gd_some h
    rw [gd_t g1, gd_t g2]
    obtain ⟨a, ha, ea⟩ := vp_in_of (x := l3) (n := 6) g1 (by decide)
    obtain ⟨c, hc6, ec⟩ := vp_in_of (x := l2) (n := 6) g2 (by decide)
    subst ea ec
    rw [nI_toInt (by omega)] at hl hl3
    have ha' : a < n := by omega
    have hc' : c < n := by omega
    rw [nI_clamp (n := c) (by omega), nI_clamp (n := a) (by omega)] at h ⊢
    rw [hA a ha', hA c hc']
    by_cases hc : ρ.2 20 c ≤ ρ.2 20 a
    · rw [if_pos hc] at h ⊢
      obtain ⟨g3, h⟩ := gd_some h
      obtain ⟨g4, h⟩ := gd_some h
      obtain ⟨g5, h⟩ := gd_some h
      obtain ⟨g6, h⟩ := gd_some h
      rw [gd_t g3, gd_t g4, gd_t g5, gd_t g6]
      obtain ⟨n', rfl⟩ : ∃ n', n = n' + 1 := ⟨n - 1, by omega⟩
      rw [nI_pred] at h ⊢
      obtain ⟨σ', i1, i2, i3⟩ := no100 (n := n' + 1) fuelN (setA (setA σ 20 c (ρ.2 20 a)) 20 a (ρ.2 20 c)) _ (nI n') (nI c + 1) r ρ' ((hA.st c rfl).st a rfl) (by rw [nI_toInt (by omega)]; omega) h
      exact ⟨σ', i1, i2, ((S20.st σ _ _).tr (S20.st _ _ _)).tr i3⟩
    · rw [if_neg hc] at h ⊢
      refine ih σ ρ (nI c) (nI a + (-1)) r ρ' hA (by rw [nI_toInt (by omega)]; omega) ?_ h
      cases a with
      | zero => show (-1 : Int32).toInt < _; rw [show (-1 : Int32).toInt = -1 from by decide]; omega
      | succ a => rw [pk_m1, nI_toInt (by omega)]; omega
theorem no31 {n : Nat} (hn : n ≤ 6) (hn1 : 1 ≤ n) (σ ρ : MS) (l2 r : Int32) (ρ' : MS) (hA : Ag n σ ρ) (hl : l2.toInt < n) (h : FM_nextOrder_31 ρ (nI n) l2 = some (r, ρ')) : ∃ σ', FM_nextOrder_31 σ (nI n) l2 = some (r, σ') ∧ Ag n σ' ρ' ∧ S20 σ σ' := by
  unfold FM_nextOrder_31 at h ⊢
  by_cases hc : 0 ≤ l2
  · rw [if_pos hc] at h ⊢
    simp only [nm] at h ⊢
    refine no41 hn hn1 fuelN σ ρ l2 _ r ρ' hA hl ?_ h
    obtain ⟨n', rfl⟩ : ∃ n', n = n' + 1 := ⟨n - 1, by omega⟩
    rw [nI_pred, nI_toInt (by omega)]
    omega
  · rw [if_neg hc] at h ⊢
    cases h
    exact ⟨σ, rfl, hA, S20.rf σ⟩
theorem no4 {n : Nat} (hn : n ≤ 6) (hn1 : 1 ≤ n) : ∀ (f : Nat) (σ ρ : MS) (l2 r : Int32) (ρ' : MS), Ag n σ ρ → l2.toInt + 1 < n → FM_nextOrder_4 f ρ (nI n) l2 = some (r, ρ') → ∃ σ', FM_nextOrder_4 f σ (nI n) l2 = some (r, σ') ∧ Ag n σ' ρ' ∧ S20 σ σ' := by
  intro f
  induction f with
  | zero => intro σ ρ l2 r ρ' hA hl h; exact absurd h (by simp [FM_nextOrder_4])
  | succ f ih =>
    intro σ ρ l2 r ρ' hA hl h
    rw [FM_nextOrder_4] at h ⊢
    by_cases hc : l2 < 0
    · rw [if_pos hc] at h ⊢
      exact no31 hn hn1 σ ρ l2 r ρ' hA (by omega) h
    · rw [if_neg hc] at h ⊢
      simp only [nm] at h ⊢
      obtain ⟨g1, h⟩ := gd_some h
      obtain ⟨g2, h⟩ := gd_some h
      rw [gd_t g1, gd_t g2]
      obtain ⟨a, ha, ea⟩ := vp_in_of (x := l2) (n := 6) g1 (by decide)
      subst ea
      rw [nI_toInt (by omega)] at hl
      rw [nI_1, nI_clamp (n := a) (by omega), nI_clamp (n := a + 1) (by omega)] at h ⊢
      rw [hA a (by omega), hA (a + 1) (by omega)]
      by_cases hc2 : ρ.2 20 a ≤ ρ.2 20 (a + 1)
      · rw [if_pos hc2] at h ⊢
        exact no31 hn hn1 σ ρ (nI a) r ρ' hA (by rw [nI_toInt (by omega)]; omega) h
      · rw [if_neg hc2] at h ⊢
        refine ih σ ρ (nI a + (-1)) r ρ' hA ?_ h
        cases a with
        | zero => show (-1 : Int32).toInt + 1 < _; rw [show (-1 : Int32).toInt = -1 from by decide]; omega
        | succ a => rw [pk_m1, nI_toInt (by omega)]; omega
theorem no_loc {n : Nat} (hn : n ≤ 6) (hn1 : 1 ≤ n) (σ ρ : MS) (r : Int32) (ρ' : MS) (hA : Ag n σ ρ) (h : FM_nextOrder ρ (nI n) = some (r, ρ')) : ∃ σ', FM_nextOrder σ (nI n) = some (r, σ') ∧ Ag n σ' ρ' ∧ S20 σ σ' := by
  unfold FM_nextOrder at h ⊢
  simp only [nm] at h ⊢
  refine no4 hn hn1 fuelN σ ρ _ r ρ' hA ?_ h
  rw [show (nI n - 2 : Int32).toInt = (n : Int) - (2 : Nat) from pk_sub_toInt (a := n) (b := 2) (by omega) (by decide)]
  omega
def Tr (σ : MS) (p : List Nat) : Prop := ∀ j, j < p.length → σ.2 20 j = nI (p.getD j 0)
theorem Tr.ag {σ : MS} {p : List Nat} (h : Tr σ p) : Ag p.length σ (trOf p) := by
  intro j hj
  rw [h j hj]
  show _ = (setR s0 20 (fun j => nI (p.getD j 0))).2 20 j
  rw [setR_get]
theorem nx_some {σ : MS} {p q : List Nat} (hn : p.length ≤ 6) (hn1 : 1 ≤ p.length) (hq : q.length = p.length) (hT : Tr σ p) (h : nxOK p q = true) : ∃ σ', FM_nextOrder σ (nI p.length) = some (1, σ') ∧ Tr σ' q ∧ S20 σ σ' := by
  unfold nxOK at h
  cases e : FM_nextOrder (trOf p) (nI p.length) with
  | none => rw [e] at h; exact absurd (show false = true from h) (by decide)
  | some x =>
    obtain ⟨r, ρ'⟩ := x
    rw [e] at h
    simp only [Bool.and_eq_true, decide_eq_true_eq] at h
    obtain ⟨rfl, h2⟩ := h
    obtain ⟨σ', i1, i2, i3⟩ := no_loc hn hn1 σ (trOf p) 1 ρ' hT.ag e
    refine ⟨σ', i1, fun j hj => ?_, i3⟩
    rw [i2 j (by omega)]
    have := eqT_spec q 0 h2 j hj
    rwa [Nat.zero_add] at this
theorem nx_none {σ : MS} {p : List Nat} (hn : p.length ≤ 6) (hn1 : 1 ≤ p.length) (hT : Tr σ p) (h : nxEnd p = true) : ∃ σ', FM_nextOrder σ (nI p.length) = some (0, σ') ∧ S20 σ σ' := by
  unfold nxEnd at h
  cases e : FM_nextOrder (trOf p) (nI p.length) with
  | none => rw [e] at h; exact absurd (show false = true from h) (by decide)
  | some x =>
    obtain ⟨r, ρ'⟩ := x
    rw [e] at h
    simp only [decide_eq_true_eq] at h
    subst h
    obtain ⟨σ', i1, i2, i3⟩ := no_loc hn hn1 σ (trOf p) 0 ρ' hT.ag e
    exact ⟨σ', i1, i3⟩
/-! PURE: tour: the days of an order; both sides keep the first of the shortest -/
def walk (w : Nat → Nat → Option Nat) (t : Nat → Nat) : Nat → Nat → List Nat → Option Nat
  | z, g, [] => (w z 0).map (fun x => g + x)
  | z, g, h :: q => match w z (t h) with
    | none => none
    | some x => walk w t (t h) (g + x) q
def rwk (w : Nat → Nat → Option Nat) (t : Nat → Nat) : Nat → Nat → List Nat → Nat
  | z, g, [] => g + (w z 0).getD 10000
  | z, g, h :: q => rwk w t (t h) (g + (w z (t h)).getD 10000) q
set_option maxRecDepth 100000 in
theorem ar1 {c g x n : Nat} (h : c < g + x + 1000 * (n + 1)) (hx : x < 1000) : c < g + 1000 * (n + 1 + 1) := by omega
set_option maxRecDepth 100000 in
theorem ar2 {c n : Nat} (h : c < 0 + 1000 * (n + 1)) (hn : n ≤ 6) : c < 10000 := by omega
section WK
variable {w : Nat → Nat → Option Nat} {t : Nat → Nat}
theorem rwk_ge : ∀ (q : List Nat) (z g : Nat), g ≤ rwk w t z g q := by
  intro q
  induction q with
  | nil => intro z g; exact Nat.le_add_right _ _
  | cons h q ih => intro z g; exact Nat.le_trans (Nat.le_add_right _ _) (ih _ _)
theorem getD_le (hw : ∀ a b x, w a b = some x → x < 1000) (a b : Nat) : (w a b).getD 10000 ≤ 10000 := by
  cases e : w a b with
  | none => exact Nat.le_refl _
  | some x => have := hw a b x e; show x ≤ 10000; omega
theorem rwk_le (hw : ∀ a b x, w a b = some x → x < 1000) : ∀ (q : List Nat) (z g : Nat), rwk w t z g q ≤ g + 10000 * (q.length + 1) := by
  intro q
  induction q with
  | nil =>
    intro z g
    have := getD_le hw z 0
    show g + (w z 0).getD 10000 ≤ g + 10000 * (0 + 1)
    omega
  | cons h q ih =>
    intro z g
    have h1 := getD_le hw z (t h)
    have h2 := ih (t h) (g + (w z (t h)).getD 10000)
    show rwk w t (t h) (g + (w z (t h)).getD 10000) q ≤ g + 10000 * (q.length + 1 + 1)
    refine Nat.le_trans h2 ?_
    clear h2
    generalize (w z (t h)).getD 10000 = X at h1
    omega
theorem walk_some (hw : ∀ a b x, w a b = some x → x < 1000) : ∀ (q : List Nat) (z g c : Nat), walk w t z g q = some c → rwk w t z g q = c ∧ c < g + 1000 * (q.length + 1) := by
  intro q
  induction q with
  | nil =>
    intro z g c h
    rw [walk] at h
    rw [rwk]
    cases e : w z 0 with
    | none => rw [e] at h; cases h
    | some x =>
      rw [e] at h
      cases h
      have := hw z 0 x e
      refine ⟨rfl, ?_⟩
      show g + x < g + 1000 * (0 + 1)
      omega
  | cons h q ih =>
    intro z g c hc
    rw [walk] at hc
    rw [rwk]
    cases e : w z (t h) with
    | none => rw [e] at hc; cases hc
    | some x =>
      rw [e] at hc
      have h1 := hw z (t h) x e
      obtain ⟨i1, i2⟩ := ih (t h) (g + x) c hc
      exact ⟨i1, ar1 i2 h1⟩
theorem walk_none : ∀ (q : List Nat) (z g : Nat), walk w t z g q = none → 10000 ≤ rwk w t z g q := by
  intro q
  induction q with
  | nil =>
    intro z g h
    rw [walk] at h
    rw [rwk]
    cases e : w z 0 with
    | none => show 10000 ≤ g + 10000; omega
    | some x => rw [e] at h; cases h
  | cons h q ih =>
    intro z g hc
    rw [walk] at hc
    rw [rwk]
    cases e : w z (t h) with
    | none => exact Nat.le_trans (by show 10000 ≤ g + 10000; omega) (rwk_ge q _ _)
    | some x => rw [e] at hc; exact ih _ _ hc
end WK
/-- the land, as both sides have it -/
def TD (w : Nat → Nat → Option Nat) (t : Nat → Nat) (H : Nat) (σL σ : MS) : Prop :=
  (∀ a b x, w a b = some x → x < 1000) ∧ H ≤ 6 ∧ σL.1 6 = nI H ∧ (∀ a b, a < 8 → b < 8 → FL_distance σL (nI a) (nI b) = some (match w a b with | some x => nI x | none => -1000000)) ∧ (∀ a b, a < 8 → b < 8 → σ.2 5 (5 + 8 * a + b) = nI ((w a b).getD 10000)) ∧ (∀ h, h < H → t h < 8 ∧ σL.2 1 h = nI (t h) ∧ σ.2 5 (69 + h) = nI (t h))
theorem TD.cg {w : Nat → Nat → Option Nat} {t : Nat → Nat} {H : Nat} {σL σ σ' : MS} (h : TD w t H σL σ) (e : σ'.2 5 = σ.2 5) : TD w t H σL σ' := by
  unfold TD at h ⊢
  rw [e]
  exact h
theorem td_of {k : Nat} {σL σ : MS} (h : RReal k (σL.1 4) (σL.1 5) (σL.1 6) (σL.1 7) (σL.2 0) (σL.2 1) (σL.2 2) (σL.2 3) (σ.2 5)) (h1 : σL.1 4 = 1) : ∃ w t H, TD w t H σL σ := by
  obtain ⟨-, -, ⟨-, -, b1, b2, -⟩, -, hw, ht, -⟩ := h
  obtain ⟨H, hH, eH⟩ := nI_of2 (x := σL.1 6) (M := 6) (n := 6) (by decide) (Int32.not_lt.mpr b1) b2
  have hw := fun a b ha hb => (hw h1 a b ha hb).1
  refine ⟨fun a b => if a < 8 ∧ b < 8 ∧ σL.2 0 (8 * a + b) < 1000000 then some (σL.2 0 (8 * a + b)).toNatClampNeg else none, fun h => (σL.2 1 h).toNatClampNeg, H, ?_, hH, eH, ?_, ?_, ?_⟩
  · intro a b x e
    dsimp only at e
    split at e
    · rename_i z
      obtain ⟨z1, z2, z3⟩ := z
      obtain ⟨y1, y2, y3⟩ := (hw a b z1 z2).low z3
      cases e
      obtain ⟨n, hn, en⟩ := nI_of (x := σL.2 0 (8 * a + b)) (Int32.not_lt.mpr (by rw [Int32.le_iff_toInt_le]; exact y2))
      rw [en] at y3 ⊢
      rw [nI_toInt hn] at y3
      rw [nI_clamp hn]
      omega
    · cases e
  · intro a b ha hb
    rw [p_dist σL ha hb]
    by_cases z : σL.2 0 (8 * a + b) < 1000000
    · obtain ⟨y1, y2, y3⟩ := (hw a b ha hb).low z
      obtain ⟨n, hn, en⟩ := nI_of (x := σL.2 0 (8 * a + b)) (Int32.not_lt.mpr (by rw [Int32.le_iff_toInt_le]; exact y2))
      rw [if_pos z]
      simp only [ha, hb, z, and_self, if_true]
      rw [en, nI_clamp hn]
    · rw [if_neg z]
      simp only [z, and_false, if_false]
  · intro a b ha hb
    by_cases z : σL.2 0 (8 * a + b) < 1000000
    · obtain ⟨y1, y2, y3⟩ := (hw a b ha hb).low z
      obtain ⟨n, hn, en⟩ := nI_of (x := σL.2 0 (8 * a + b)) (Int32.not_lt.mpr (by rw [Int32.le_iff_toInt_le]; exact y2))
      simp only [ha, hb, z, and_self, if_true, Option.getD_some]
      rw [← y1, en, nI_clamp hn]
    · simp only [z, and_false, if_false, Option.getD_none]
      rcases hw a b ha hb with ⟨-, e⟩ | ⟨-, e1, e2⟩
      · exact e
      · exfalso
        apply z
        rw [Int32.lt_iff_toInt_lt] at e2 ⊢
        have e3 : (1000 : Int32).toInt = 1000 := by decide
        have e4 : (1000000 : Int32).toInt = 1000000 := by decide
        omega
  · intro i hi
    obtain ⟨e1, e2, e3⟩ := ht i (by omega) (by rw [eH]; exact nI_lt hi (by omega))
    obtain ⟨n, hn, en⟩ := nI_of2 (x := σL.2 1 i) (M := 7) (n := 7) (by decide) (fun z => by
      rw [Int32.le_iff_toInt_le] at e2
      rw [Int32.lt_iff_toInt_lt] at z
      have q1 : (1 : Int32).toInt = 1 := by decide
      have q2 : (0 : Int32).toInt = 0 := by decide
      omega) e3
    rw [← e1, en]
    dsimp only
    rw [en, nI_clamp (by omega)]
    exact ⟨by omega, rfl, rfl⟩
theorem dway_loop {w : Nat → Nat → Option Nat} {t : Nat → Nat} {H : Nat} {σL σ : MS} (T : TD w t H σL σ) {n : Nat} (hn : n ≤ 6) (m : Nat) : ∀ (q : List Nat) (k z g : Nat), k + q.length = n → z < 8 → (∀ x ∈ q, x < H) → g ≤ 10000 * k → (∀ j, j < q.length → σ.2 20 (k + j) = nI (q.getD j 0)) → FM_daysOf_7 (m + q.length + 1) σ (nI n) (nI z) (nI g) (nI k) = some (nI (min 10000 (rwk w t z g q))) := by
  obtain ⟨hw, hH, -, -, hf, ht⟩ := T
  intro q
  induction q with
  | nil =>
    intro k z g hk hz _ hg _
    have hk : k = n := hk
    have h1 := getD_le hw z 0
    show FM_daysOf_7 (m + 1) σ (nI n) (nI z) (nI g) (nI k) = _
    rw [FM_daysOf_7, if_pos (nI_le (by omega) (by omega)), show FM_farOf σ (nI z) 0 = _ from p_farOf σ (a := z) (b := 0) hz (by decide), Option.bind_some, hf z 0 hz (by decide)]
    simp only [nm]
    rw [nI_add, rwk]
    by_cases hc : 10000 ≤ g + (w z 0).getD 10000
    · rw [if_pos (show (10000 : Int32) ≤ _ from nI_le (a := 10000) hc (by omega)), Nat.min_eq_left hc]
      rfl
    · rw [if_neg (show ¬ (10000 : Int32) ≤ _ from nI_ge (b := 10000) (by omega) (by decide)), Nat.min_eq_right (by omega)]
  | cons h q ih =>
    intro k z g hk hz hx hg hq
    have hk : k + (q.length + 1) = n := hk
    have hh : h < H := hx h List.mem_cons_self
    obtain ⟨t1, -, t3⟩ := ht h hh
    have h1 := getD_le hw z (t h)
    have e0 : σ.2 20 k = nI h := hq 0 (Nat.succ_pos _)
    have e1 : (69 + nI h : Int32) = nI (69 + h) := nI_add 69 h
    show FM_daysOf_7 ((m + q.length + 1) + 1) σ (nI n) (nI z) (nI g) (nI k) = _
    rw [FM_daysOf_7, if_neg (nI_ge (by omega) (by omega))]
    simp only [nm]
    rw [gd_nI (j := k) (N := 6) (by omega) (by decide), nI_clamp (n := k) (by omega), e0, e1, gd_nI (j := 69 + h) (N := 147) (by omega) (by decide), nI_clamp (n := 69 + h) (by omega), t3, p_farOf σ hz t1, Option.bind_some, gd_cl (j := k) (N := 6) (by omega) (by decide), gd_cl (j := 69 + h) (N := 147) (by omega) (by decide), hf z (t h) hz t1, nI_add, nI_1, rwk]
    refine ih (k + 1) (t h) _ (by omega) t1 (fun x hm => hx x (List.mem_cons_of_mem _ hm)) (by omega) (fun j hj => ?_)
    have := hq (j + 1) (by show j + 1 < q.length + 1; omega)
    rw [show k + 1 + j = k + (j + 1) from by omega, this]
    rfl
def stp (acc : Option (Nat × List Nat)) (c : Option Nat) (p : List Nat) : Option (Nat × List Nat) :=
  match c with
  | none => acc
  | some x => match acc with
    | none => some (x, p)
    | some a => if x < a.1 then some (x, p) else some a
def fd (w : Nat → Nat → Option Nat) (t : Nat → Nat) (z g : Nat) (pre : List Nat) (acc : Option (Nat × List Nat)) (L : List (List Nat)) : Option (Nat × List Nat) := L.foldl (fun a q => stp a (walk w t z g q) (pre ++ q)) acc
def cst (acc : Option (Nat × List Nat)) : Nat := match acc with
  | none => 10000
  | some a => a.1
def AccM (n : Nat) (σ : MS) (acc : Option (Nat × List Nat)) : Prop := ∀ a, acc = some a → a.1 < 10000 ∧ ∀ j, j < n → σ.2 21 j = nI (a.2.getD j 0)
def S21 (σ σ' : MS) : Prop := σ'.1 = σ.1 ∧ ∀ i, i ≠ 20 → i ≠ 21 → σ'.2 i = σ.2 i
theorem S21.rf (σ : MS) : S21 σ σ := ⟨rfl, fun _ _ _ => rfl⟩
theorem S21.tr {a b c : MS} (h : S21 a b) (h' : S21 b c) : S21 a c := ⟨h'.1.trans h.1, fun i hi hj => (h'.2 i hi hj).trans (h.2 i hi hj)⟩
theorem S20.s21 {a b : MS} (h : S20 a b) : S21 a b := ⟨h.1, fun i hi _ => h.2 i hi⟩
theorem S21.R (σ : MS) (f : Nat → Int32) : S21 σ (setR σ 21 f) := ⟨rfl, fun _ _ hi => va_up_ne _ _ hi⟩
theorem cp66 {n : Nat} (hn : n ≤ 6) (ag : MS → Int32 → Int32 → Int32 → Option (Int32 × MS)) (σ : MS) (l3 : Int32) (m : Nat) : ∀ (d c : Nat), c + d = n → FM_layTour_66 ag (m + d + 1) (setR σ 21 (va_cpy (σ.2 20) (σ.2 21) 0 0 c)) (nI n) l3 (nI c) = FM_layTour_92 ag (setR σ 21 (va_cpy (σ.2 20) (σ.2 21) 0 0 n)) (nI n) l3 := by
  intro d
  induction d with
  | zero =>
    intro c hc
    have hc : c = n := hc
    subst hc
    rw [FM_layTour_66, if_pos (nI_le (Nat.le_refl _) (by omega))]
  | succ d ih =>
    intro c hc
    have e := cpy_step (σ.2 20) (σ.2 21) 0 0 c
    rw [Nat.zero_add] at e
    show FM_layTour_66 ag ((m + d + 1) + 1) _ _ _ _ = _
    rw [FM_layTour_66, if_neg (nI_ge (by omega) (by omega))]
    simp only [nm]
    rw [gd_nI (j := c) (N := 6) (by omega) (by decide), gd_nI (j := c) (N := 6) (by omega) (by decide), nI_clamp (n := c) (by omega), setR_gne σ _ (show 20 ≠ 21 by decide), setA_R, setR_get, setR_setR, e, nI_1]
    exact ih (c + 1) (by omega)
theorem cst_le {n : Nat} {σ : MS} {acc : Option (Nat × List Nat)} (h : AccM n σ acc) : cst acc ≤ 10000 := by
  cases acc with
  | none => exact Nat.le_refl _
  | some a => have := (h a rfl).1; show a.1 ≤ 10000; omega
theorem lay_step {w : Nat → Nat → Option Nat} {t : Nat → Nat} {H : Nat} {σL σ : MS} (T : TD w t H σL σ) {n : Nat} (hn : n ≤ 6) {p : List Nat} (hp : p.length = n) (hx : ∀ x ∈ p, x < H) (hT : Tr σ p) {acc : Option (Nat × List Nat)} (hA : AccM n σ acc) (f : Nat) : ∃ σ1, FM_layTour_42 (f + 1) σ (nI n) (nI (cst acc)) 1 = FM_layTour_92 (FM_layTour_42 f) σ1 (nI n) (nI (cst (stp acc (walk w t 0 0 p) p))) ∧ AccM n σ1 (stp acc (walk w t 0 0 p) p) ∧ Tr σ1 p ∧ S21 σ σ1 := by
  have hD : FM_daysOf σ (nI n) = some (nI (min 10000 (rwk w t 0 0 p))) := by
    have := dway_loop T hn (4999 - n) p 0 0 0 (by omega) (by decide) hx (by omega) (fun j hj => by rw [Nat.zero_add]; exact hT j hj)
    rw [hp, show 4999 - n + n + 1 = fuelN from by show _ = 5000; omega] at this
    exact this
  have hw := T.1
  have hcl := cst_le hA
  rw [FM_layTour_42, if_neg one_ne_zero32, hD, Option.bind_some]
  cases e : walk w t 0 0 p with
  | none =>
    have h1 := walk_none p 0 0 e
    rw [Nat.min_eq_left h1, if_pos (nI_le hcl (by decide))]
    exact ⟨σ, rfl, hA, hT, S21.rf σ⟩
  | some c =>
    obtain ⟨h1, h2⟩ := walk_some hw p 0 0 c e
    have hc : c < 10000 := ar2 h2 (by rw [hp]; exact hn)
    have hc31 : c < 2 ^ 31 := Nat.lt_of_lt_of_le hc (by decide)
    rw [h1, Nat.min_eq_right (Nat.le_of_lt hc)]
    by_cases hle : cst acc ≤ c
    · rw [if_pos (nI_le hle hc31)]
      have es : stp acc (some c) p = acc := by
        cases acc with
        | none => exact absurd hle (Nat.not_le.mpr hc)
        | some a =>
          have hle : a.1 ≤ c := hle
          show (if c < a.1 then _ else _) = _
          rw [if_neg (Nat.not_lt.mpr hle)]
      rw [es]
      exact ⟨σ, rfl, hA, hT, S21.rf σ⟩
    · rw [if_neg (nI_ge (Nat.not_le.mp hle) (Nat.lt_of_le_of_lt hcl (by decide)))]
      have es : stp acc (some c) p = some (c, p) := by
        cases acc with
        | none => rfl
        | some a =>
          have hle : ¬ a.1 ≤ c := hle
          show (if c < a.1 then _ else _) = _
          rw [if_pos (Nat.not_le.mp hle)]
      rw [es]
      have h66 := cp66 hn (FM_layTour_42 f) σ (nI c) (4999 - n) n 0 (by omega)
      rw [show 4999 - n + n + 1 = fuelN from by show _ = 5000; omega, cpy_0, setR_same σ 21 _ rfl] at h66
      refine ⟨setR σ 21 (va_cpy (σ.2 20) (σ.2 21) 0 0 n), h66, ?_, ?_, S21.R σ _⟩
      · intro a ea
        cases ea
        refine ⟨hc, fun j hj => ?_⟩
        rw [setR_get, ← hT j (by omega)]
        have := cpy_in (σ.2 20) (σ.2 21) (sp := 0) (dp := 0) hj
        rw [Nat.zero_add] at this
        exact this
      · intro j hj
        rw [setR_gne σ _ (show 20 ≠ 21 by decide)]
        exact hT j hj
theorem lay_loop {w : Nat → Nat → Option Nat} {t : Nat → Nat} {H : Nat} {σL σ0 : MS} (T : TD w t H σL σ0) {n : Nat} (hn : n ≤ 6) (hn1 : 1 ≤ n) (m : Nat) : ∀ (L : List (List Nat)) (σ : MS) (acc : Option (Nat × List Nat)), chain L = true → (∀ p ∈ L, p.length = n ∧ ∀ x ∈ p, x < H) → (∀ p, L.head? = some p → Tr σ p) → AccM n σ acc → S21 σ0 σ → ∃ σ', FM_layTour_42 (m + L.length + 1) σ (nI n) (nI (cst acc)) 1 = some (nI (cst (fd w t 0 0 [] acc L)), σ') ∧ AccM n σ' (fd w t 0 0 [] acc L) ∧ S21 σ0 σ' := by
  intro L
  induction L with
  | nil => intro σ acc hc; exact absurd hc (by decide)
  | cons p r ih =>
    intro σ acc hc hL hT hA hS
    obtain ⟨hp, hx⟩ := hL p List.mem_cons_self
    obtain ⟨σ1, i1, i2, i3, i4⟩ := lay_step (T.cg (hS.2 5 (by decide) (by decide))) hn hp hx (hT p rfl) hA (m + r.length + 1)
    have ef : fd w t 0 0 [] acc (p :: r) = fd w t 0 0 [] (stp acc (walk w t 0 0 p) p) r := rfl
    rw [ef]
    show ∃ σ', FM_layTour_42 ((m + r.length + 1) + 1) σ (nI n) (nI (cst acc)) 1 = _ ∧ _
    rw [i1, FM_layTour_92]
    cases r with
    | nil =>
      have hc : nxEnd p = true := hc
      obtain ⟨σ2, j1, j2⟩ := nx_none (by omega) (by omega) i3 hc
      rw [hp] at j1
      refine ⟨σ2, ?_, ?_, (hS.tr i4).tr j2.s21⟩
      · rw [j1]
        show FM_layTour_42 (m + 0 + 1) σ2 (nI n) _ 0 = _
        rw [FM_layTour_42, if_pos rfl]
        rfl
      · intro a ea
        obtain ⟨a1, a2⟩ := i2 a ea
        refine ⟨a1, fun j hj => ?_⟩
        rw [j2.2 21 (by decide)]
        exact a2 j hj
    | cons q r' =>
      have hc : (nxOK p q && chain (q :: r')) = true := hc
      rw [Bool.and_eq_true] at hc
      obtain ⟨hq, -⟩ := hL q (List.mem_cons_of_mem _ List.mem_cons_self)
      obtain ⟨σ2, j1, j2, j3⟩ := nx_some (by omega) (by omega) (hq.trans hp.symm) i3 hc.1
      rw [hp] at j1
      have hA2 : AccM n σ2 (stp acc (walk w t 0 0 p) p) := by
        intro a ea
        obtain ⟨a1, a2⟩ := i2 a ea
        refine ⟨a1, fun j hj => ?_⟩
        rw [j3.2 21 (by decide)]
        exact a2 j hj
      obtain ⟨σ3, l1, l2, l3⟩ := ih σ2 _ hc.2 (fun p hp => hL p (List.mem_cons_of_mem _ hp)) (fun p' hp' => by cases hp'; exact j2) hA2 ((hS.tr i4).tr j3.s21)
      refine ⟨σ3, ?_, l2, l3⟩
      rw [j1]
      exact l1
theorem bitv : ∀ b, b < 64 → ∀ h, h < 6 → ((nI b >>> (nI h &&& 31)) &&& 1 : Int32) = nI (b / 2 ^ h % 2) := by decide +kernel
theorem bitx : ∀ b, b < 64 → ∀ h, h < 6 → b / 2 ^ h % 2 = 1 → (nI b &&& ((1 <<< (nI h &&& 31)) ^^^ (-1)) : Int32) = nI (b - 2 ^ h) := by decide +kernel
theorem lb6_len (b : Nat) : ∀ i, (lb6 b i).length = cnt6 b i := by
  intro i
  induction i with
  | zero => rfl
  | succ i ih =>
    show (lb6 b i ++ (if b / 2 ^ i % 2 = 1 then [i] else [])).length = cnt6 b i + b / 2 ^ i % 2
    rw [List.length_append, ih]
    by_cases h : b / 2 ^ i % 2 = 1
    · rw [if_pos h, h]; rfl
    · rw [if_neg h]
      have : b / 2 ^ i % 2 = 0 := by omega
      rw [this]; rfl
theorem cnt6_le (b : Nat) : ∀ i, cnt6 b i ≤ i := by
  intro i
  induction i with
  | zero => exact Nat.le_refl _
  | succ i ih =>
    show cnt6 b i + b / 2 ^ i % 2 ≤ i + 1
    have : b / 2 ^ i % 2 < 2 := Nat.mod_lt _ (by decide)
    omega
theorem getD_app1 (l : List Nat) (x j : Nat) : (l ++ [x]).getD j 0 = if j < l.length then l.getD j 0 else if j = l.length then x else 0 := by
  by_cases h : j < l.length
  · rw [if_pos h]
    simp [List.getD, List.getElem?_append_left h]
  · rw [if_neg h]
    by_cases h2 : j = l.length
    · rw [if_pos h2, h2]
      simp [List.getD]
    · rw [if_neg h2]
      simp [List.getD]
      rw [List.getElem?_eq_none (by simp; omega)]
      rfl
theorem Tr.app {σ : MS} {l : List Nat} (h : Tr σ l) (x : Nat) : Tr (setA σ 20 l.length (nI x)) (l ++ [x]) := by
  intro j hj
  rw [List.length_append] at hj
  have hj : j < l.length + 1 := hj
  rw [getD_app1, A20]
  by_cases h1 : j < l.length
  · rw [if_pos h1, pk_un (by omega)]
    exact h j h1
  · have e : j = l.length := by omega
    rw [if_neg h1, if_pos e, e, pk_us]
theorem lay4_loop {b : Nat} (hb : b < 64) (m : Nat) : ∀ (d i : Nat) (σ : MS), i + d = 6 → Tr σ (lb6 b i) → ∃ σ', FM_layTour_4 (m + d + 1) σ (nI b) (nI (cnt6 b i)) (nI i) = FM_layTour_42 fuelN σ' (nI (cnt6 b 6)) 10000 1 ∧ Tr σ' (lb6 b 6) ∧ S20 σ σ' := by
  intro d
  induction d with
  | zero =>
    intro i σ hi hT
    have hi : i = 6 := hi
    subst hi
    refine ⟨σ, ?_, hT, S20.rf σ⟩
    rw [FM_layTour_4, if_pos (show (6 : Int32) ≤ nI 6 by decide)]
  | succ d ih =>
    intro i σ hi hT
    have hl := cnt6_le b i
    show ∃ σ', FM_layTour_4 ((m + d + 1) + 1) σ _ _ _ = _ ∧ _
    rw [FM_layTour_4, if_neg (show ¬ (6 : Int32) ≤ nI i from nI_ge (b := 6) (by omega) (by decide)), bitv b hb i (by omega)]
    simp only [nm, FM_layTour_29]
    have ec : cnt6 b (i + 1) = cnt6 b i + b / 2 ^ i % 2 := rfl
    have el : lb6 b (i + 1) = lb6 b i ++ (if b / 2 ^ i % 2 = 1 then [i] else []) := rfl
    by_cases h : b / 2 ^ i % 2 = 1
    · rw [h] at ec
      rw [if_pos h] at el
      rw [h, if_pos (show nI 1 = 1 from rfl), gd_nI (j := cnt6 b i) (N := 6) (by omega) (by decide), nI_clamp (n := cnt6 b i) (by omega), nI_1, nI_1, ← ec]
      have hT' := hT.app i
      rw [lb6_len, ← el] at hT'
      obtain ⟨σ', i1, i2, i3⟩ := ih (i + 1) _ (by omega) hT'
      exact ⟨σ', i1, i2, (S20.st σ _ _).tr i3⟩
    · have h0 : b / 2 ^ i % 2 = 0 := by omega
      rw [h0] at ec
      rw [if_neg h] at el
      rw [h0, if_neg (show ¬ nI 0 = 1 by decide), nI_1, ← Nat.add_zero (cnt6 b i), ← ec]
      refine ih (i + 1) σ (by omega) ?_
      rw [el, List.append_nil]
      exact hT
theorem lay_all {w : Nat → Nat → Option Nat} {t : Nat → Nat} {H : Nat} {σL σ : MS} (T : TD w t H σL σ) {b : Nat} (hb : b < 2 ^ H) (h1 : 1 ≤ b) : ∃ σ', FM_layTour σ (nI b) = some (nI (cst (fd w t 0 0 [] none (PLs (cnt6 b 6) b))), σ') ∧ AccM (cnt6 b 6) σ' (fd w t 0 0 [] none (PLs (cnt6 b 6) b)) ∧ S21 σ σ' := by
  have hH := T.2.1
  have hb6 : b < 64 := Nat.lt_of_lt_of_le hb (Nat.pow_le_pow_right (by decide) hH : 2 ^ H ≤ 2 ^ 6)
  have P := PL_all b hb6 h1
  unfold PLok at P
  simp only [Bool.and_eq_true, decide_eq_true_eq, List.all_eq_true] at P
  obtain ⟨⟨⟨p1, p2⟩, p3⟩, p4⟩ := P
  obtain ⟨σ1, i1, i2, i3⟩ := lay4_loop hb6 (4999 - 6) 6 0 σ (by decide) (fun j hj => absurd hj (Nat.not_lt_zero j))
  have hn1 : 1 ≤ cnt6 b 6 := by
    rcases Nat.eq_zero_or_pos (cnt6 b 6) with z | z
    · exfalso
      have : ∀ b, b < 64 → 1 ≤ b → cnt6 b 6 ≠ 0 := by decide +kernel
      exact this b hb6 h1 z
    · exact z
  obtain ⟨σ2, j1, j2, j3⟩ := lay_loop T (cnt6_le b 6) hn1 (4999 - (PLs (cnt6 b 6) b).length) (PLs (cnt6 b 6) b) σ1 none p2 (fun p hp => by
    obtain ⟨q1, q2⟩ := p1 p hp
    refine ⟨q1, fun x hx => ?_⟩
    obtain ⟨q3, q4⟩ := q2 x hx
    rcases Nat.lt_or_ge x H with z | z
    · exact z
    · exfalso
      rw [Nat.div_eq_of_lt (Nat.lt_of_lt_of_le hb (Nat.pow_le_pow_right (by decide) z))] at q4
      exact absurd q4 (by decide)) (fun p hp => by rw [p3] at hp; cases hp; exact i2) (fun a ea => by cases ea) i3.s21
  rw [show 4999 - (PLs (cnt6 b 6) b).length + (PLs (cnt6 b 6) b).length + 1 = fuelN from by show _ = 5000; omega] at j1
  refine ⟨σ2, ?_, j2, j3⟩
  unfold FM_layTour
  rw [show FM_layTour_4 fuelN σ (nI b) 0 0 = _ from i1]
  exact j1
/-! PURE: tour: the class's search; the call -/
def AccC (n : Nat) (σC : MS) (acc : Option (Nat × List Nat)) : Prop := match acc with
  | none => σC.1 3 = -1000000
  | some a => σC.1 3 = nI a.1 ∧ a.1 < 10000 ∧ ∀ j, j < n → σC.2 0 j = nI (a.2.getD j 0)
theorem nI_ne_none {x : Nat} (h : x < 2 ^ 31) : ¬ nI x = -1000000 := by
  intro e
  have : (nI x).toInt = (-1000000 : Int32).toInt := by rw [e]
  rw [nI_toInt h, show (-1000000 : Int32).toInt = -1000000 from by decide] at this
  omega
theorem p_come {n : Nat} (hn : n ≤ 6) {σC : MS} {acc : Option (Nat × List Nat)} (hA : AccC n σC acc) {pre : List Nat} (hp : pre.length = n) (hP : ∀ j, j < n → σC.2 1 j = nI (pre.getD j 0)) {g : Nat} (hg : g < 9000) (c : Option Nat) (hc : ∀ x, c = some x → x < 1000) : ∃ σC', FC_comeHome σC (nI g) (match c with | some x => nI x | none => -1000000) = some σC' ∧ σC'.1 2 = σC.1 2 ∧ σC'.2 1 = σC.2 1 ∧ AccC n σC' (stp acc (c.map (fun x => g + x)) pre) := by
  unfold FC_comeHome
  cases c with
  | none => exact ⟨σC, if_pos rfl, rfl, rfl, hA⟩
  | some x =>
    have hx := hc x rfl
    have h25 : FC_comeHome_25 σC (nI g) (nI x) = some (setR (setF σC 3 (nI (g + x))) 0 (va_cpy (σC.2 1) (σC.2 0) 0 0 6)) := by
      unfold FC_comeHome_25
      simp only [nm]
      rw [gd_t (by decide), nI_add]
      rfl
    have hnew : AccC n (setR (setF σC 3 (nI (g + x))) 0 (va_cpy (σC.2 1) (σC.2 0) 0 0 6)) (some (g + x, pre)) := by
      refine ⟨rfl, by show g + x < 10000; omega, fun j hj => ?_⟩
      rw [setR_get, ← hP j hj]
      have := cpy_in (σC.2 1) (σC.2 0) (sp := 0) (dp := 0) (n := 6) (j := j) (by omega)
      rw [Nat.zero_add] at this
      exact this
    dsimp only
    rw [if_neg (nI_ne_none (by omega)), h25]
    cases acc with
    | none =>
      have hA : σC.1 3 = -1000000 := hA
      rw [if_pos hA]
      exact ⟨_, rfl, rfl, rfl, hnew⟩
    | some a =>
      obtain ⟨a1, a2, a3⟩ := hA
      rw [a1, if_neg (nI_ne_none (by omega)), nI_add]
      by_cases hl : a.1 ≤ g + x
      · rw [if_pos (nI_le hl (by omega))]
        refine ⟨σC, rfl, rfl, rfl, ?_⟩
        show AccC n σC (if g + x < a.1 then _ else _)
        rw [if_neg (by omega)]
        exact ⟨a1, a2, a3⟩
      · rw [if_neg (nI_ge (by omega) (by omega))]
        refine ⟨_, rfl, rfl, rfl, ?_⟩
        show AccC n _ (if g + x < a.1 then _ else _)
        rw [if_pos (by omega)]
        exact hnew
theorem PLf_nil (f : Nat → List (List Nat)) {b : Nat} : ∀ (c h : Nat), b < 2 ^ h → PLf f b c h = [] := by
  intro c
  induction c with
  | zero => intro h _; rfl
  | succ c ih =>
    intro h hb
    show (if b / 2 ^ h % 2 = 1 then _ else []) ++ PLf f b c (h + 1) = []
    rw [Nat.div_eq_of_lt hb, if_neg (by decide), ih (h + 1) (Nat.lt_of_lt_of_le hb (Nat.pow_le_pow_right (by decide) (Nat.le_succ h)))]
    rfl
theorem fd_none {w : Nat → Nat → Option Nat} {t : Nat → Nat} {z g h : Nat} {pre : List Nat} (hw : w z (t h) = none) : ∀ (L : List (List Nat)) (acc : Option (Nat × List Nat)), fd w t z g pre acc (L.map (fun q => h :: q)) = acc := by
  intro L
  induction L with
  | nil => intro acc; rfl
  | cons q L ih =>
    intro acc
    show fd w t z g pre (stp acc (walk w t z g (h :: q)) (pre ++ h :: q)) (L.map (fun q => h :: q)) = acc
    rw [walk, hw]
    exact ih acc
theorem fd_some {w : Nat → Nat → Option Nat} {t : Nat → Nat} {z g h x : Nat} {pre : List Nat} (hw : w z (t h) = some x) : ∀ (L : List (List Nat)) (acc : Option (Nat × List Nat)), fd w t z g pre acc (L.map (fun q => h :: q)) = fd w t (t h) (g + x) (pre ++ [h]) acc L := by
  intro L
  induction L with
  | nil => intro acc; rfl
  | cons q L ih =>
    intro acc
    show fd w t z g pre (stp acc (walk w t z g (h :: q)) (pre ++ h :: q)) (L.map (fun q => h :: q)) = fd w t (t h) (g + x) (pre ++ [h]) (stp acc (walk w t (t h) (g + x) q) (pre ++ [h] ++ q)) L
    rw [walk, hw, List.append_assoc]
    exact ih _
def Pth (σC : MS) (pre : List Nat) : Prop := ∀ j, j < pre.length → σC.2 1 j = nI (pre.getD j 0)
theorem go32 {w : Nat → Nat → Option Nat} {t : Nat → Nat} {H : Nat} {σL σ : MS} (T : TD w t H σL σ) {n d : Nat} (hn : n ≤ 6) {rc : MS → MS → Int32 → Int32 → Int32 → Int32 → Option MS}
    (hrc : ∀ (σC : MS) (b z g : Nat) (pre : List Nat) (acc : Option (Nat × List Nat)), pre.length + d = n → b < 2 ^ H → z < 8 → g ≤ 1000 * pre.length → σC.1 2 = nI n → Pth σC pre → AccC n σC acc → ∃ σC', rc σC σL (nI b) (nI z) (nI g) (nI pre.length) = some σC' ∧ σC'.1 2 = nI n ∧ Pth σC' pre ∧ AccC n σC' (fd w t z g pre acc (PLs d b)))
    {b z g : Nat} {pre : List Nat} (hpre : pre.length + (d + 1) = n) (hb : b < 2 ^ H) (hz : z < 8) (hg : g ≤ 1000 * pre.length) (m : Nat) : ∀ (c h : Nat) (σC : MS) (acc : Option (Nat × List Nat)), h + c = 6 → σC.1 2 = nI n → Pth σC pre → AccC n σC acc → ∃ σC', FC_goOn_32 rc (m + c + 1) σC σL (nI b) (nI z) (nI g) (nI pre.length) (nI h) = some σC' ∧ σC'.1 2 = nI n ∧ Pth σC' pre ∧ AccC n σC' (fd w t z g pre acc (PLf (PLs d) b c h)) := by
  have T' := T
  obtain ⟨hw, hH, eH, hdist, -, ht⟩ := T'
  have hb6 : b < 64 := Nat.lt_of_lt_of_le hb (Nat.pow_le_pow_right (by decide) hH : 2 ^ H ≤ 2 ^ 6)
  intro c
  induction c with
  | zero =>
    intro h σC acc hh e2 hP hA
    have hh : h = 6 := hh
    refine ⟨σC, ?_, e2, hP, hA⟩
    rw [FC_goOn_32, eH, if_pos (nI_le (by omega) (by omega))]
  | succ c ih =>
    intro h σC acc hh e2 hP hA
    show ∃ σC', FC_goOn_32 rc ((m + c + 1) + 1) σC σL _ _ _ _ _ = _ ∧ _
    rw [FC_goOn_32, eH]
    by_cases hc : H ≤ h
    · rw [if_pos (nI_le hc (by omega)), PLf_nil _ _ _ (Nat.lt_of_lt_of_le hb (Nat.pow_le_pow_right (by decide) hc))]
      exact ⟨σC, rfl, e2, hP, hA⟩
    · obtain ⟨t1, t2, -⟩ := ht h (by omega)
      rw [if_neg (nI_ge (by omega) (by omega))]
      simp only [nm, FC_goOn_110]
      rw [gd_nI (j := h) (N := 6) (by omega) (by decide), nI_clamp (n := h) (by omega), t2, hdist z (t h) hz t1, Option.bind_some, bitv b hb6 h (by omega)]
      have eP : PLf (PLs d) b (c + 1) h = (if b / 2 ^ h % 2 = 1 then (PLs d (b - 2 ^ h)).map (fun q => h :: q) else []) ++ PLf (PLs d) b c (h + 1) := rfl
      by_cases hbit : b / 2 ^ h % 2 = 1
      · rw [if_pos hbit] at eP
        rw [eP, hbit, if_pos (show nI 1 = 1 from rfl)]
        have ef : fd w t z g pre acc ((PLs d (b - 2 ^ h)).map (fun q => h :: q) ++ PLf (PLs d) b c (h + 1)) = fd w t z g pre (fd w t z g pre acc ((PLs d (b - 2 ^ h)).map (fun q => h :: q))) (PLf (PLs d) b c (h + 1)) := List.foldl_append
        rw [ef]
        cases e : w z (t h) with
        | none =>
          rw [fd_none e]
          dsimp only
          rw [if_pos rfl, nI_1]
          exact ih (h + 1) σC acc (by omega) e2 hP hA
        | some x =>
          have hx := hw z (t h) x e
          rw [fd_some e]
          dsimp only
          rw [if_neg (nI_ne_none (by omega)), gd_nI (j := pre.length) (N := 6) (by omega) (by decide), nI_clamp (n := pre.length) (by omega), gd_cl (j := h) (N := 6) (by omega) (by decide), bitx b hb6 h (by omega) hbit, nI_add, nI_1, nI_1]
          have hl : (pre ++ [h]).length = pre.length + 1 := by rw [List.length_append]; rfl
          obtain ⟨σC1, i1, i2, i3, i4⟩ := hrc (setA σC 1 pre.length (nI h)) (b - 2 ^ h) (t h) (g + x) (pre ++ [h]) acc (by omega) (Nat.lt_of_le_of_lt (Nat.sub_le _ _) hb) t1 (by omega) e2 (by
            intro j hj
            rw [hl] at hj
            rw [getD_app1]
            show upd (σC.2 1) pre.length (nI h) j = _
            by_cases h1 : j < pre.length
            · rw [if_pos h1, pk_un (by omega)]
              exact hP j h1
            · have e : j = pre.length := by omega
              rw [if_neg h1, if_pos e, e, pk_us]) (by
            cases acc with
            | none => exact hA
            | some a => exact hA)
          rw [hl] at i1
          rw [i1, Option.bind_some]
          refine ih (h + 1) σC1 _ (by omega) i2 (fun j hj => ?_) i4
          rw [i3 j (by omega), getD_app1, if_pos hj]
      · rw [if_neg hbit] at eP
        have h0 : b / 2 ^ h % 2 = 0 := by omega
        rw [eP, h0, if_neg (show ¬ nI 0 = 1 by decide), nI_1]
        exact ih (h + 1) σC acc (by omega) e2 hP hA
theorem go_all {w : Nat → Nat → Option Nat} {t : Nat → Nat} {H : Nat} {σL σ : MS} (T : TD w t H σL σ) {n : Nat} (hn : n ≤ 6) (m : Nat) : ∀ (d : Nat) (σC : MS) (b z g : Nat) (pre : List Nat) (acc : Option (Nat × List Nat)), pre.length + d = n → b < 2 ^ H → z < 8 → g ≤ 1000 * pre.length → σC.1 2 = nI n → Pth σC pre → AccC n σC acc → ∃ σC', FC_goOn (m + d + 1) σC σL (nI b) (nI z) (nI g) (nI pre.length) = some σC' ∧ σC'.1 2 = nI n ∧ Pth σC' pre ∧ AccC n σC' (fd w t z g pre acc (PLs d b)) := by
  intro d
  induction d with
  | zero =>
    intro σC b z g pre acc hp hb hz hg e2 hP hA
    have hp : pre.length = n := hp
    show ∃ σC', FC_goOn_B (FC_goOn (m + 0)) σC σL (nI b) (nI z) (nI g) (nI pre.length) = _ ∧ _
    unfold FC_goOn_B FC_goOn_16
    rw [e2, hp, if_pos (nI_le (Nat.le_refl _) (by omega)), show FL_distance σL (nI z) 0 = _ from T.2.2.2.1 z 0 hz (by decide), Option.bind_some]
    obtain ⟨σC', i1, i2, i3, i4⟩ := p_come hn hA hp (fun j hj => hP j (by omega)) (g := g) (by omega) (w z 0) (fun x hx => T.1 z 0 x hx)
    refine ⟨σC', ?_, i2.trans e2, fun j hj => by rw [i3]; exact hP j hj, ?_⟩
    · rw [i1]; rfl
    · show AccC n σC' (stp acc (walk w t z g []) (pre ++ []))
      rw [List.append_nil, walk]
      exact i4
  | succ d ih =>
    intro σC b z g pre acc hp hb hz hg e2 hP hA
    show ∃ σC', FC_goOn_B (FC_goOn (m + d + 1)) σC σL (nI b) (nI z) (nI g) (nI pre.length) = _ ∧ _
    unfold FC_goOn_B
    rw [e2, if_neg (nI_ge (by omega) (by omega)), if_pos (show nI pre.length < 6 from nI_lt (b := 6) (by omega) (by decide))]
    exact go32 T hn ih hp hb hz hg 4993 6 0 σC acc (by decide) e2 hP hA
theorem saved_loop {k : Nat} {σL σ : MS} (h : RReal k (σL.1 4) (σL.1 5) (σL.1 6) (σL.1 7) (σL.2 0) (σL.2 1) (σL.2 2) (σL.2 3) (σ.2 5)) {N : Nat} (hN : N ≤ 12) (e1 : σL.1 7 = nI N) (e2 : σ.2 5 3 = nI N) (l m : Int32) (n : Nat) : ∀ (d c : Nat) (acc : Int32), c + d = N → ∃ r, FL_savedByTour_5 (n + d + 1) σL l m acc (nI c) = some r ∧ FM_savedBy_5 (n + d + 1) σ l m acc (nI c) = some r := by
  intro d
  induction d with
  | zero =>
    intro c acc hc
    refine ⟨acc, ?_, ?_⟩
    · unfold FL_savedByTour_5
      rw [e1, if_pos (nI_le (by omega) (by omega))]
    · unfold FM_savedBy_5
      rw [gd_t (by decide), show Int32.toNatClampNeg 3 = 3 from by decide, e2, if_pos (nI_le (by omega) (by omega))]
  | succ d ih =>
    intro c acc hc
    obtain ⟨q, t, C⟩ := h.cn (j := c) (by omega) (by rw [e1]; exact nI_lt (by omega) (by omega))
    obtain ⟨-, ⟨a0, a1, -⟩, ⟨o0, o1, o2, o3, -, o5⟩, ⟨-, -, ls, ms⟩, ⟨fo, du, wi⟩, -, -, hd, -⟩ := C
    have hge : ¬ nI N ≤ nI c := nI_ge (by omega) (by omega)
    have L0 : FL_savedByTour_5 (n + (d + 1) + 1) σL l m acc (nI c) = FL_savedByTour_5 (n + (d + 1)) σL l m (if σL.2 3 (5 * c + 2) = 0 ∧ ((l >>> (nI q &&& 31)) &&& 1) = 1 ∧ ¬ σL.2 2 c = 5 ∧ σL.2 3 (5 * c + 4) = 0 ∧ ¬ spanV (σL.2 2 c) (σL.1 5) < σL.2 3 (5 * c + 1) + m then acc + 1 else acc) (nI (c + 1)) := by
      conv => lhs; unfold FL_savedByTour_5 FL_savedByTour_42 FL_savedByTour_43 FL_savedByTour_89
      rw [wi, a0, fo, du, ls, a1]
      simp only [e1, hge, if_false, Option.bind_some, nm, ← nI_succ]
      generalize ((l >>> (nI q &&& 31)) &&& 1 : Int32) = B
      by_cases z1 : σL.2 3 (5 * c + 2) = 0
      · by_cases z2 : B = 1
        · by_cases z3 : σL.2 2 c = 5
          · simp [z1, z2, z3]
          · rcases hd with hd | hd
            · by_cases z4 : spanV (σL.2 2 c) (σL.1 5) < σL.2 3 (5 * c + 1) + m
              · simp [z1, z2, z3, hd, z4]
              · simp [z1, z2, z3, hd, z4]
            · simp [z1, z2, z3, hd]
        · simp [z1, z2]
      · simp [z1]
    have M0 : FM_savedBy_5 (n + (d + 1) + 1) σ l m acc (nI c) = FM_savedBy_5 (n + (d + 1)) σ l m (if σL.2 3 (5 * c + 2) = 0 ∧ ((l >>> (nI q &&& 31)) &&& 1) = 1 ∧ ¬ σL.2 2 c = 5 ∧ σL.2 3 (5 * c + 4) = 0 ∧ ¬ spanV (σL.2 2 c) (σL.1 5) < σL.2 3 (5 * c + 1) + m then acc + 1 else acc) (nI (c + 1)) := by
      conv => lhs; unfold FM_savedBy_5 FM_savedBy_45 FM_savedBy_46 FM_savedBy_91 FM_savedBy_92 FM_savedBy_109 FM_savedBy_110
      rw [gd_t (by decide), show Int32.toNatClampNeg 3 = 3 from by decide, o3, o1, o0, o5, o2, ms]
      simp only [e2, hge, if_false, Option.bind_some, nm, ← nI_succ]
      generalize ((l >>> (nI q &&& 31)) &&& 1 : Int32) = B
      by_cases z1 : σL.2 3 (5 * c + 2) = 0
      · by_cases z2 : B = 1
        · by_cases z3 : σL.2 2 c = 5
          · simp [z1, z2, z3]
          · rcases hd with hd | hd
            · by_cases z4 : spanV (σL.2 2 c) (σL.1 5) < σL.2 3 (5 * c + 1) + m
              · simp [z1, z2, z3, hd, z4]
              · simp [z1, z2, z3, hd, z4]
            · simp [z1, z2, z3, hd]
        · simp [z1, z2]
      · simp [z1]
    rw [L0, M0]
    exact ih (c + 1) _ (by omega)
theorem tour66_loop (σ : MS) {b : Nat} (hb : b < 64) (l2 l3 : Int32) (m : Nat) : ∀ (d i : Nat), i + d = 6 → FM_tour_66 (m + d + 1) σ (nI b) l2 l3 (nI (cnt6 b i)) (nI i) = (if l2 = (-2) then (Option.bind (FM_savedBy σ (nI b) l3) fun (r15 : Int32) => some (r15, σ)) else (if l2 = (-1) then (some (l3, σ)) else (if nI (cnt6 b 6) ≤ l2 then (some ((-1000000), σ)) else (gd (¬ ((l2 : Int32) < 0 ∨ 6 ≤ Int32.toNatClampNeg l2)) (some ((σ.2 21 (Int32.toNatClampNeg l2)), σ)))))) := by
  intro d
  induction d with
  | zero =>
    intro i hi
    have hi : i = 6 := hi
    subst hi
    rw [FM_tour_66, if_pos (show (6 : Int32) ≤ nI 6 by decide)]
  | succ d ih =>
    intro i hi
    show FM_tour_66 ((m + d + 1) + 1) σ _ _ _ _ _ = _
    rw [FM_tour_66, if_neg (show ¬ (6 : Int32) ≤ nI i from nI_ge (b := 6) (by omega) (by decide)), bitv b hb i (by omega)]
    simp only [nm]
    rw [nI_add, nI_1]
    exact ih (i + 1) (by omega)
theorem Rel.s21 {k : Nat} {σP σL σG σR σT σC σC' σA σK : MS} {ω ι : Nat → MS} {σ σ' : MS} (h : Rel k σP σL σG σR σT σC σA σK ω ι σ) (hS : S21 (setF σ 0 0) σ') : Rel (k + 1) σP σL σG σR σT σC' σA σK ω ι σ' := by
  obtain ⟨q1, q2⟩ := hS
  have hF : ∀ i, i ≠ 0 → σ'.1 i = σ.1 i := fun i h0 => by rw [q1]; exact va_up_ne _ _ h0
  have hA : ∀ i, i ≠ 20 → i ≠ 21 → σ'.2 i = σ.2 i := q2
  obtain ⟨⟨h1, h2⟩, h3, h9, ⟨h4, h5⟩, h6, h7, h8⟩ := Rel.mono _ _ _ _ _ _ _ _ _ _ _ _ h
  refine ⟨⟨?_, ?_⟩, ?_, ?_, ⟨?_, ?_⟩, ?_, ?_, ?_⟩
  · rw [hF 1 (by decide)]; exact h1
  · rw [hF 12 (by decide)]; exact h2
  · rw [hA 2 (by decide) (by decide), hA 3 (by decide) (by decide), hA 4 (by decide) (by decide)]; exact h3
  · rw [hF 11 (by decide), hA 10 (by decide) (by decide)]; exact h9
  · rw [hF 7 (by decide)]; exact h4
  · rw [hA 5 (by decide) (by decide)]; exact h5
  · rw [hF 9 (by decide), hA 8 (by decide) (by decide)]; exact h6
  · rw [hA 22 (by decide) (by decide), hA 23 (by decide) (by decide)]; exact h7
  · rw [hF 25 (by decide), hA 24 (by decide) (by decide)]; exact h8
theorem hold2 : ∀ H, H < 7 → ((1 <<< (nI H &&& 31)) - 1 : Int32) = nI (2 ^ H - 1) := by decide +kernel
theorem bitc : ∀ b, b < 64 → FJ_bitCount_0f7a4 (nI b) = some (nI (cnt6 b 6)) := by decide +kernel
theorem p_plan {w : Nat → Nat → Option Nat} {t : Nat → Nat} {H : Nat} {σL σ : MS} (T : TD w t H σL σ) (σC : MS) {b : Nat} (hb : b < 2 ^ H) : ∃ σC', FC_plan σC σL (nI b) = some (σC'.1 3, σC') ∧ σC'.1 2 = nI (cnt6 b 6) ∧ AccC (cnt6 b 6) σC' (fd w t 0 0 [] none (PLs (cnt6 b 6) b)) := by
  have hb6 : b < 64 := Nat.lt_of_lt_of_le hb (Nat.pow_le_pow_right (by decide) T.2.1 : 2 ^ H ≤ 2 ^ 6)
  have hn := cnt6_le b 6
  obtain ⟨σC', j1, j2, -, j4⟩ := go_all T hn (7 - cnt6 b 6) (cnt6 b 6) (setF (setF σC 2 (nI (cnt6 b 6))) 3 (-1000000)) b 0 0 [] none (by show 0 + _ = _; omega) hb (by decide) (by decide) rfl (fun j hj => absurd hj (Nat.not_lt_zero j)) rfl
  rw [show 7 - cnt6 b 6 + cnt6 b 6 + 1 = 8 from by omega] at j1
  refine ⟨σC', ?_, j2, j4⟩
  unfold FC_plan
  rw [bitc b hb6, Option.bind_some]
  simp only [nm]
  rw [show FC_goOn 8 (setF (setF σC 2 (nI (cnt6 b 6))) 3 (-1000000)) σL (nI b) 0 0 0 = _ from j1]
  rfl
theorem sim_tour : Sim_tour Rel := by
  intro k σP σL σG σR σT σC σA σK ω ι σ a1 a2 hk h
  have hm := Rel.mono _ _ _ _ _ _ _ _ _ _ _ _ h
  obtain ⟨et, hR⟩ := h.2.2.2.1
  by_cases h0 : σL.1 4 = 0
  · refine ⟨-1000002, σC, setF σ 0 0, ?_, ?_, hm⟩
    · unfold FP_tour
      rw [if_pos h0]
    · unfold FM_tour
      show (if σ.1 7 = 0 then _ else _) = _
      rw [if_pos (by rw [← et]; exact h0)]
  have h1 : σL.1 4 = 1 := hR.1.resolve_left h0
  have h0' : ¬ σ.1 7 = 0 := by rw [← et]; exact h0
  obtain ⟨w, t, H, T⟩ := td_of (σ := setF σ 0 0) hR h1
  have hH := T.2.1
  have eH := T.2.2.1
  have eH2 : σ.2 5 2 = nI H := by rw [← hR.2.1.2.1]; exact eH
  have hLc : FP_outside a1 1 ((1 <<< ((σL.1 6) &&& 31)) - 1) = some (if 1 ≤ a1 ∧ a1 ≤ nI (2 ^ H - 1) then 0 else 1) := by
    rw [p_outside, eH, hold2 H (by omega)]
  have hMc : FM_in (Int32.toInt64 a1) 1 (Int32.toInt64 ((1 <<< ((σ.2 5 2) &&& 31)) - 1)) = some (if 1 ≤ a1 ∧ a1 ≤ nI (2 ^ H - 1) then 1 else 0) := by
    rw [eH2, hold2 H (by omega)]
    exact p_in a1 1 _
  have hM0 : FM_tour σ a1 a2 = Option.bind (FM_in (Int32.toInt64 a1) 1 (Int32.toInt64 ((1 <<< ((σ.2 5 2) &&& 31)) - 1))) fun (r4 : Int32) => if r4 = 0 then (some ((-1000001), setF σ 0 0)) else (if (-2) ≤ a2 then (bd2 (FM_layTour (setF σ 0 0) a1) fun (r7 : Int32) (σ8 : MS) => if r7 = 10000 then (some ((-1000000), σ8)) else (FM_tour_66 fuelN σ8 a1 a2 r7 0 0)) else (some ((-1000001), setF σ 0 0))) := by
    unfold FM_tour
    simp only [nm]
    rw [show (setF σ 0 0).1 7 = σ.1 7 from rfl, if_neg h0', gd_t (by decide), show Int32.toNatClampNeg 2 = 2 from by decide]
    rfl
  by_cases hc : 1 ≤ a1 ∧ a1 ≤ nI (2 ^ H - 1)
  · by_cases hk2 : (-2 : Int32) ≤ a2
    · have hp2 : 2 ^ H ≤ 2 ^ 6 := Nat.pow_le_pow_right (by decide) hH
      have hp0 : 0 < 2 ^ H := Nat.two_pow_pos H
      obtain ⟨b, hbb, rfl⟩ := nI_of (x := a1) (fun z => by
        have := hc.1
        rw [Int32.le_iff_toInt_le] at this
        rw [Int32.lt_iff_toInt_lt] at z
        have e1 : (1 : Int32).toInt = 1 := by decide
        have e2 : (0 : Int32).toInt = 0 := by decide
        omega)
      have hb1 : 1 ≤ b := (nI_leI (a := 1) (by decide) hbb).mp hc.1
      have hb : b < 2 ^ H := by
        have := (nI_leI hbb (by omega)).mp hc.2
        omega
      have hb6 : b < 64 := by omega
      obtain ⟨σ', i1, i2, i3⟩ := lay_all T hb hb1
      obtain ⟨σC', j1, j2, j4⟩ := p_plan T σC hb
      have hm' : Rel (k + 1) σP σL σG σR σT σC' σA σK ω ι σ' := h.s21 i3
      have hn := cnt6_le b 6
      generalize hA : fd w t 0 0 [] none (PLs (cnt6 b 6) b) = A at i1 i2 j4
      have hL1 : ∀ x, (if σC'.1 3 = (-1000000) then (some ((-1000000 : Int32), σC')) else (if a2 = (-2) then (Option.bind (FL_savedByTour σL (nI b) (σC'.1 3)) fun (r11 : Int32) => some (r11, σC')) else (if a2 = (-1) then (some (σC'.1 3, σC')) else (Option.bind (FC_stop σC' a2) fun (r10 : Int32) => some (r10, σC'))))) = x → FP_tour σL σC (nI b) a2 = x := by
        intro x hx
        unfold FP_tour
        rw [if_neg h0, hLc, if_pos hc, Option.bind_some, if_pos rfl, if_pos hk2, j1]
        exact hx
      have hM1 : ∀ x, (if nI (cst A) = 10000 then (some ((-1000000 : Int32), σ')) else (FM_tour_66 fuelN σ' (nI b) a2 (nI (cst A)) 0 0)) = x → FM_tour σ (nI b) a2 = x := by
        intro x hx
        rw [hM0, hMc, if_pos hc, Option.bind_some, if_neg one_ne_zero32, if_pos hk2, i1]
        exact hx
      have h66 : ∀ l3, FM_tour_66 fuelN σ' (nI b) a2 l3 0 0 = _ := fun l3 => tour66_loop σ' hb6 a2 l3 4993 6 0 (by decide)
      cases A with
      | none =>
        have j4 : σC'.1 3 = -1000000 := j4
        exact ⟨-1000000, σC', σ', hL1 _ (by rw [if_pos j4]), hM1 _ (if_pos (show nI (cst none) = 10000 from rfl)), hm'⟩
      | some a =>
        obtain ⟨q1, q2, q3⟩ := j4
        obtain ⟨-, q4⟩ := i2 a rfl
        rw [q1, if_neg (nI_ne_none (by omega))] at hL1
        have hne : ¬ nI (cst (some a)) = 10000 := by
          intro e
          have := (nI_eq (a := a.1) (b := 10000) (by omega) (by decide)).mp e
          omega
        rw [if_neg hne, h66] at hM1
        by_cases z1 : a2 = -2
        · obtain ⟨N, hN, e1, e2⟩ := hR.num
          have e5 : σ'.2 5 = σ.2 5 := i3.2 5 (by decide) (by decide)
          obtain ⟨r, s1, s2⟩ := saved_loop (σ := σ') (k := k) (by rw [e5]; exact hR) hN e1 (by rw [e5]; exact e2) (nI b) (nI a.1) (4999 - N) N 0 0 (by omega)
          rw [show 4999 - N + N + 1 = fuelN from by show _ = 5000; omega] at s1 s2
          refine ⟨r, σC', σ', hL1 _ ?_, hM1 _ ?_, hm'⟩
          · rw [if_pos z1]
            unfold FL_savedByTour
            rw [show FL_savedByTour_5 fuelN σL (nI b) (nI a.1) 0 0 = _ from s1]
            rfl
          · rw [if_pos z1]
            unfold FM_savedBy
            rw [show FM_savedBy_5 fuelN σ' (nI b) (nI (cst (some a))) 0 0 = _ from s2]
            rfl
        by_cases z2 : a2 = -1
        · refine ⟨nI a.1, σC', σ', hL1 _ ?_, hM1 _ ?_, hm'⟩
          · rw [if_neg z1, if_pos z2]
          · rw [if_neg z1, if_pos z2]
            rfl
        have hpos : 0 ≤ a2 := by
          have y1 : ¬ a2.toInt = -2 := fun e => z1 (Int32.toInt_inj.mp (by rw [e]; decide))
          have y2 : ¬ a2.toInt = -1 := fun e => z2 (Int32.toInt_inj.mp (by rw [e]; decide))
          rw [Int32.le_iff_toInt_le] at hk2 ⊢
          have e1 : (-2 : Int32).toInt = -2 := by decide
          have e2 : (0 : Int32).toInt = 0 := by decide
          omega
        obtain ⟨j, hj, rfl⟩ := nI_of (x := a2) (Int32.not_lt.mpr hpos)
        by_cases hjn : j < cnt6 b 6
        · refine ⟨nI (a.2.getD j 0), σC', σ', hL1 _ ?_, hM1 _ ?_, hm'⟩
          · rw [if_neg z1, if_neg z2]
            unfold FC_stop
            rw [p_outside, j2, if_pos ((ixm (by omega)).mpr ⟨j, hjn, rfl⟩), Option.bind_some, if_pos rfl, gd_nI (N := 6) (by omega) (by decide), nI_clamp (by omega), q3 j hjn]
            rfl
          · rw [if_neg z1, if_neg z2, if_neg (nI_ge hjn (by omega)), gd_nI (N := 6) (by omega) (by decide), nI_clamp (by omega), q4 j hjn]
        · refine ⟨-1000000, σC', σ', hL1 _ ?_, hM1 _ ?_, hm'⟩
          · rw [if_neg z1, if_neg z2]
            unfold FC_stop
            rw [p_outside, j2, if_neg (fun z => by
              obtain ⟨i, hi, e⟩ := (ixm (by omega)).mp z
              have := (nI_eq hj (by omega)).mp e
              omega), Option.bind_some, if_neg one_ne_zero32]
            rfl
          · rw [if_neg z1, if_neg z2, if_pos (nI_le (by omega) hj)]
    · refine ⟨-1000001, σC, setF σ 0 0, ?_, ?_, hm⟩
      · unfold FP_tour
        rw [if_neg h0, hLc, if_pos hc, Option.bind_some, if_pos rfl, if_neg hk2]
      · rw [hM0, hMc, if_pos hc, Option.bind_some, if_neg one_ne_zero32, if_neg hk2]
  · refine ⟨-1000001, σC, setF σ 0 0, ?_, ?_, hm⟩
    · unfold FP_tour
      rw [if_neg h0, hLc, if_neg hc, Option.bind_some, if_neg one_ne_zero32]
    · rw [hM0, hMc, if_neg hc, Option.bind_some, if_pos rfl]
/-! PURE: realm: the tape's tokens, both sides -/
def TPu (m : Nat) (u : Nat → Nat) (σT σ : MS) : Prop := m ≤ 500 ∧ σT.1 1 = nI m ∧ σ.1 13 = nI m ∧ ∀ j, j < m → u j < 256 ∧ σ.2 10 j = nI (u j) ∧ (u j < 128 → σT.2 0 j = nI (u j)) ∧ (128 ≤ u j → σT.2 0 j < 0)
def FrT (a b : MS) : Prop := b.1 1 = a.1 1 ∧ b.2 = a.2
def FrM (a b : MS) : Prop := (∀ i, i ≠ 14 → i ≠ 15 → i ≠ 16 → i ≠ 17 → b.1 i = a.1 i) ∧ b.2 = a.2
theorem FrT.rf (a : MS) : FrT a a := ⟨rfl, rfl⟩
theorem FrM.rf (a : MS) : FrM a a := ⟨fun _ _ _ _ _ => rfl, rfl⟩
theorem FrT.tr {a b c : MS} (h : FrT a b) (h' : FrT b c) : FrT a c := ⟨h'.1.trans h.1, h'.2.trans h.2⟩
theorem FrM.tr {a b c : MS} (h : FrM a b) (h' : FrM b c) : FrM a c := ⟨fun i h0 h1 h2 h3 => (h'.1 i h0 h1 h2 h3).trans (h.1 i h0 h1 h2 h3), h'.2.trans h.2⟩
theorem FrT.st (σ : MS) {i : Nat} (x : Int32) (h : 1 ≠ i) : FrT σ (setF σ i x) := ⟨va_up_ne _ _ h, rfl⟩
theorem FrM.st (σ : MS) {i : Nat} (x : Int32) (h : i = 14 ∨ i = 15 ∨ i = 16 ∨ i = 17) : FrM σ (setF σ i x) := ⟨fun j h0 h1 h2 h3 => va_up_ne _ _ (by omega), rfl⟩
theorem TPu.fr {m : Nat} {u : Nat → Nat} {σT σ σT' σ' : MS} (h : TPu m u σT σ) (hT : FrT σT σT') (hM : FrM σ σ') : TPu m u σT' σ' := by
  unfold TPu at h ⊢
  rw [hT.1, hT.2, hM.1 13 (by decide) (by decide) (by decide) (by decide), hM.2]
  exact h
def kd (x : Nat) : Nat := if 97 ≤ x ∧ x ≤ 122 then 1 else if 48 ≤ x ∧ x ≤ 57 then 2 else if x = 32 ∨ x = 10 then 5 else if x = 59 then 3 else 4
theorem kd_1 {x : Nat} (h : kd x = 1) : 97 ≤ x ∧ x ≤ 122 := by
  unfold kd at h
  split at h
  · assumption
  · split at h
    · cases h
    · split at h
      · cases h
      · split at h <;> cases h
theorem kd_2 {x : Nat} (h : kd x = 2) : 48 ≤ x ∧ x ≤ 57 := by
  unfold kd at h
  split at h
  · cases h
  · split at h
    · assumption
    · split at h
      · cases h
      · split at h <;> cases h
theorem kd_b (x : Nat) : 1 ≤ kd x ∧ kd x ≤ 5 := by
  unfold kd
  split
  · decide
  · split
    · decide
    · split
      · decide
      · split <;> decide
theorem kd_5 {x : Nat} : kd x = 5 ↔ (x = 32 ∨ x = 10) := by
  unfold kd
  constructor
  · intro h
    split at h
    · cases h
    · split at h
      · cases h
      · split at h
        · assumption
        · split at h <;> cases h
  · rintro (rfl | rfl) <;> rfl
theorem kd_3 {x : Nat} : kd x = 3 ↔ x = 59 := by
  unfold kd
  constructor
  · intro h
    split at h
    · cases h
    · split at h
      · cases h
      · split at h
        · cases h
        · split at h
          · assumption
          · cases h
  · rintro rfl; rfl
theorem srt_all : ∀ x, x < 128 → (if (nI x : Int32) < 97 then (FT_sortOfByte_21 s0 (nI x)) else (if 122 < nI x then (FT_sortOfByte_21 s0 (nI x)) else (some (1)))) = some (nI (kd x)) := by decide +kernel
theorem p_sort {m : Nat} {u : Nat → Nat} {σT σ : MS} (h : TPu m u σT σ) {j : Nat} (hj : j < m) : FT_sortOfByte σT (nI j) = some (nI (kd (u j))) := by
  obtain ⟨hm, -, -, hb⟩ := h
  obtain ⟨-, -, h1, h2⟩ := hb j hj
  unfold FT_sortOfByte
  rw [gd_nI (N := 500) (by omega) (by decide), nI_clamp (by omega)]
  simp only [nm]
  rcases Nat.lt_or_ge (u j) 128 with z | z
  · rw [h1 z]
    exact srt_all (u j) z
  · have hn := h2 z
    have e1 : σT.2 0 j < 97 := by
      rw [Int32.lt_iff_toInt_lt] at hn ⊢
      have q1 : (97 : Int32).toInt = 97 := by decide
      have q2 : (0 : Int32).toInt = 0 := by decide
      omega
    have e2 : σT.2 0 j < 48 := by
      rw [Int32.lt_iff_toInt_lt] at hn ⊢
      have q1 : (48 : Int32).toInt = 48 := by decide
      have q2 : (0 : Int32).toInt = 0 := by decide
      omega
    have e3 : ¬ σT.2 0 j = 32 := fun e => by rw [e] at hn; exact absurd hn (by decide)
    have e4 : ¬ σT.2 0 j = 10 := fun e => by rw [e] at hn; exact absurd hn (by decide)
    have e5 : ¬ σT.2 0 j = 59 := fun e => by rw [e] at hn; exact absurd hn (by decide)
    have ek : kd (u j) = 4 := by
      unfold kd
      rw [if_neg (by omega), if_neg (by omega), if_neg (by omega), if_neg (by omega)]
    rw [if_pos e1, FT_sortOfByte_21, if_pos e2, FT_sortOfByte_35, if_neg e3, if_neg e4, if_neg e5, ek]
    rfl
theorem p_byte {m : Nat} {u : Nat → Nat} {σT σ : MS} (h : TPu m u σT σ) {j : Nat} (hj : j < m) : FM_byteAt σ (nI j) = some (nI (u j)) := by
  obtain ⟨hm, -, h13, hb⟩ := h
  unfold FM_byteAt
  rw [h13, if_neg (nI_ge hj (by omega)), gd_nI (N := 500) (by omega) (by decide), nI_clamp (by omega), (hb j hj).2.1]
theorem p_byteE {m : Nat} {u : Nat → Nat} {σT σ : MS} (h : TPu m u σT σ) : FM_byteAt σ (nI m) = some (-1000000) := by
  obtain ⟨hm, -, h13, hb⟩ := h
  unfold FM_byteAt
  rw [h13, if_pos (nI_le (Nat.le_refl _) (by omega))]
theorem let_all : ∀ x, x < 256 → FM_isLetter (nI x) = some (if kd x = 1 then 1 else 0) := by decide +kernel
theorem fig_all : ∀ x, x < 256 → FM_isFigure (nI x) = some (if kd x = 2 then 1 else 0) := by decide +kernel
theorem let_end : FM_isLetter (-1000000) = some 0 := by decide +kernel
theorem fig_end : FM_isFigure (-1000000) = some 0 := by decide +kernel
theorem gap_loop {m : Nat} {u : Nat → Nat} (n : Nat) : ∀ (d i : Nat) (σT σ : MS), i + d = m → TPu m u σT σ → σT.1 3 = nI i → σ.1 14 = nI i → ∃ (s n' : Nat) (σT' σ' : MS), i ≤ s ∧ s ≤ m ∧ (s < m → kd (u s) ≠ 5) ∧ FT_step_8 (n + d + 1) σT = FT_step_44 σT' ∧ FM_next_0 (n + d + 1) σ = FM_next_0 (n' + 1) σ' ∧ σT'.1 3 = nI s ∧ σ'.1 14 = nI s ∧ FrT σT σT' ∧ FrM σ σ' := by
  intro d
  induction d with
  | zero =>
    intro i σT σ hi h e3 e14
    have hi : i = m := hi
    refine ⟨i, n, σT, σ, Nat.le_refl _, by omega, fun z => absurd z (by omega), ?_, rfl, e3, e14, FrT.rf _, FrM.rf _⟩
    rw [FT_step_8, h.2.1, e3, if_pos (nI_le (by omega) (by have := h.1; omega))]
  | succ d ih =>
    intro i σT σ hi h e3 e14
    have hm := h.1
    have him : i < m := by omega
    have hu := (h.2.2.2 i him).1
    by_cases hk : kd (u i) = 5
    · obtain ⟨s, n', σT', σ', a1, a2, a3, a4, a5, a6, a7, a8, a9⟩ := ih (i + 1) (setF σT 3 (nI (i + 1))) (setF σ 14 (nI (i + 1))) (by omega) (h.fr (FrT.st _ _ (by decide)) (FrM.st _ _ (by decide))) rfl rfl
      refine ⟨s, n', σT', σ', by omega, a2, a3, ?_, ?_, a6, a7, (FrT.st _ _ (by decide)).tr a8, (FrM.st _ _ (by decide)).tr a9⟩
      · show FT_step_8 ((n + d + 1) + 1) σT = _
        rw [FT_step_8, h.2.1, e3, if_neg (nI_ge him (by omega)), p_sort h him, Option.bind_some, hk, if_pos (show nI 5 = 5 from rfl)]
        simp only [nm]
        rw [nI_1]
        exact a4
      · show FM_next_0 ((n + d + 1) + 1) σ = _
        rw [FM_next_0, e14, p_byte h him, Option.bind_some]
        rcases kd_5.mp hk with z | z
        · rw [z, if_pos (show nI 32 = 32 from rfl), FM_next_26]
          simp only [nm]
          rw [e14, nI_1]
          exact a5
        · rw [z, if_neg (show ¬ nI 10 = 32 by decide), Option.bind_some, if_pos (show nI 10 = 10 from rfl), FM_next_26]
          simp only [nm]
          rw [e14, nI_1]
          exact a5
    · refine ⟨i, n + (d + 1), σT, σ, Nat.le_refl _, by omega, fun _ => hk, ?_, rfl, e3, e14, FrT.rf _, FrM.rf _⟩
      have hb := kd_b (u i)
      rw [FT_step_8, h.2.1, e3, if_neg (nI_ge him (by omega)), p_sort h him, Option.bind_some, if_neg (show ¬ nI (kd (u i)) = 5 from fun e => hk ((nI_eq (a := kd (u i)) (b := 5) (by omega) (by decide)).mp e))]
theorem run_L {m : Nat} {u : Nat → Nat} {y : Nat} (n : Nat) : ∀ (d i : Nat) (σT σ : MS), i + d = m → TPu m u σT σ → σT.1 5 = nI i → σT.1 2 = nI y → y < 5 → ∃ (e : Nat) (σT' : MS), i ≤ e ∧ e ≤ m ∧ (∀ j, i ≤ j → j < e → kd (u j) = y) ∧ (e < m → kd (u e) ≠ y) ∧ FT_step_95 (n + d + 1) σT = FT_step_151 σT' ∧ σT'.1 5 = nI e ∧ σT'.1 2 = nI y ∧ σT'.1 3 = σT.1 3 ∧ FrT σT σT' := by
  intro d
  induction d with
  | zero =>
    intro i σT σ hi h e5 e2 hy
    have hi : i = m := hi
    refine ⟨i, σT, Nat.le_refl _, by omega, fun j h1 h2 => absurd h2 (by omega), fun z => absurd z (by omega), ?_, e5, e2, rfl, FrT.rf _⟩
    rw [FT_step_95, h.2.1, e5, if_pos (nI_le (by omega) (by have := h.1; omega))]
  | succ d ih =>
    intro i σT σ hi h e5 e2 hy
    have hm := h.1
    have him : i < m := by omega
    have hb := kd_b (u i)
    by_cases hk : kd (u i) = y
    · obtain ⟨e, σT', a1, a2, a3, a4, a5, a6, a7, a8, a9⟩ := ih (i + 1) (setF σT 5 (nI (i + 1))) σ (by omega) (h.fr (FrT.st _ _ (by decide)) (FrM.rf _)) rfl e2 hy
      refine ⟨e, σT', by omega, a2, fun j h1 h2 => ?_, a4, ?_, a6, a7, a8, (FrT.st _ _ (by decide)).tr a9⟩
      · rcases Nat.eq_or_lt_of_le h1 with z | z
        · rw [← z]; exact hk
        · exact a3 j z h2
      · show FT_step_95 ((n + d + 1) + 1) σT = _
        rw [FT_step_95, h.2.1, e5, if_neg (nI_ge him (by omega)), p_sort h him, Option.bind_some, hk, e2, if_pos rfl]
        simp only [nm]
        rw [nI_1]
        exact a5
    · refine ⟨i, σT, Nat.le_refl _, by omega, fun j h1 h2 => absurd h2 (by omega), fun _ => hk, ?_, e5, e2, rfl, FrT.rf _⟩
      rw [FT_step_95, h.2.1, e5, if_neg (nI_ge him (by omega)), p_sort h him, Option.bind_some, e2, if_neg (fun e => hk ((nI_eq (by omega) (by omega)).mp e))]
theorem run_77 {m : Nat} {u : Nat → Nat} {e : Nat} (n : Nat) : ∀ (d i : Nat) (σT σ : MS), i + d = e → e ≤ m → TPu m u σT σ → (∀ j, i ≤ j → j < e → kd (u j) = 1) → (e < m → kd (u e) ≠ 1) → σ.1 14 = nI i → ∃ σ', FM_next_77 (n + d + 1) σ = some σ' ∧ σ'.1 14 = nI e ∧ σ'.1 15 = 2 ∧ σ'.1 17 = nI e ∧ σ'.1 16 = σ.1 16 ∧ FrM σ σ' := by
  intro d
  induction d with
  | zero =>
    intro i σT σ hi hem h hk hk2 e14
    have hi : i = e := hi
    subst hi
    refine ⟨setF (setF σ 15 2) 17 (nI i), ?_, e14, rfl, rfl, rfl, (FrM.st _ _ (by decide)).tr (FrM.st _ _ (by decide))⟩
    rw [FM_next_77, e14]
    rcases Nat.eq_or_lt_of_le hem with z | z
    · rw [z, p_byteE h, Option.bind_some, let_end, Option.bind_some, if_pos rfl]
      simp only [nm, FM_next_196]
      rw [show (setF σ 15 2).1 14 = σ.1 14 from rfl, e14, z]
    · rw [p_byte h z, Option.bind_some, let_all _ (h.2.2.2 i z).1, if_neg (hk2 z), Option.bind_some, if_pos rfl]
      simp only [nm, FM_next_196]
      rw [show (setF σ 15 2).1 14 = σ.1 14 from rfl, e14]
  | succ d ih =>
    intro i σT σ hi hem h hk hk2 e14
    have him : i < m := by omega
    obtain ⟨σ', a1, a2, a3, a4, a5, a6⟩ := ih (i + 1) σT (setF σ 14 (nI (i + 1))) (by omega) hem (h.fr (FrT.rf _) (FrM.st _ _ (by decide))) (fun j h1 h2 => hk j (by omega) h2) hk2 rfl
    refine ⟨σ', ?_, a2, a3, a4, a5, (FrM.st _ _ (by decide)).tr a6⟩
    show FM_next_77 ((n + d + 1) + 1) σ = _
    rw [FM_next_77, e14, p_byte h him, Option.bind_some, let_all _ (h.2.2.2 i him).1, if_pos (hk i (Nat.le_refl _) (by omega)), Option.bind_some, if_neg one_ne_zero32]
    simp only [nm]
    rw [nI_1]
    exact a1
theorem run_119 {m : Nat} {u : Nat → Nat} {e s : Nat} (hs : s ≤ e) (n : Nat) : ∀ (d i : Nat) (σT σ : MS), i + d = e → e ≤ m → TPu m u σT σ → (∀ j, i ≤ j → j < e → kd (u j) = 2) → (e < m → kd (u e) ≠ 2) → σ.1 14 = nI i → σ.1 16 = nI s → ∃ σ', FM_next_119 (n + d + 1) σ = some σ' ∧ σ'.1 14 = nI e ∧ σ'.1 15 = (if e ≤ s + 3 then 3 else 0) ∧ σ'.1 17 = nI e ∧ σ'.1 16 = nI s ∧ FrM σ σ' := by
  intro d
  induction d with
  | zero =>
    intro i σT σ hi hem h hk hk2 e14 e16
    have hm := h.1
    have hi : i = e := hi
    subst hi
    have hcl : ∀ x : Int32, FM_next_165 σ x = some (setF (setF σ 15 x) 17 (nI i)) := fun x => by
      unfold FM_next_165 FM_next_196
      simp only [nm]
      rw [show (setF σ 15 x).1 14 = σ.1 14 from rfl, e14]
    have hif : (if ((σ.1 14) - (σ.1 16)) ≤ 3 then (FM_next_165 σ 3) else (FM_next_165 σ 0)) = some (setF (setF σ 15 (if i ≤ s + 3 then 3 else 0)) 17 (nI i)) := by
      rw [e14, e16, pk_sub hs]
      by_cases z : i ≤ s + 3
      · rw [if_pos z, if_pos (show nI (i - s) ≤ 3 from nI_le (b := 3) (by omega) (by decide)), hcl]
      · rw [if_neg z, if_neg (show ¬ nI (i - s) ≤ 3 from nI_ge (a := 3) (by omega) (by omega)), hcl]
    refine ⟨setF (setF σ 15 (if i ≤ s + 3 then 3 else 0)) 17 (nI i), ?_, e14, rfl, rfl, e16, (FrM.st _ _ (by decide)).tr (FrM.st _ _ (by decide))⟩
    rw [FM_next_119]
    rcases Nat.eq_or_lt_of_le hem with z | z
    · rw [show FM_byteAt σ (σ.1 14) = some (-1000000) from by rw [e14, z]; exact p_byteE h, Option.bind_some, fig_end, Option.bind_some, if_pos rfl]
      exact hif
    · rw [show FM_byteAt σ (σ.1 14) = some (nI (u i)) from by rw [e14]; exact p_byte h z, Option.bind_some, fig_all _ (h.2.2.2 i z).1, if_neg (hk2 z), Option.bind_some, if_pos rfl]
      exact hif
  | succ d ih =>
    intro i σT σ hi hem h hk hk2 e14 e16
    have him : i < m := by omega
    obtain ⟨σ', a1, a2, a3, a4, a5, a6⟩ := ih (i + 1) σT (setF σ 14 (nI (i + 1))) (by omega) hem (h.fr (FrT.rf _) (FrM.st _ _ (by decide))) (fun j h1 h2 => hk j (by omega) h2) hk2 rfl e16
    refine ⟨σ', ?_, a2, a3, a4, a5, (FrM.st _ _ (by decide)).tr a6⟩
    show FM_next_119 ((n + d + 1) + 1) σ = _
    rw [FM_next_119, show FM_byteAt σ (σ.1 14) = some (nI (u i)) from by rw [e14]; exact p_byte h him, Option.bind_some, fig_all _ (h.2.2.2 i him).1, if_pos (hk i (Nat.le_refl _) (by omega)), Option.bind_some, if_neg one_ne_zero32]
    simp only [nm]
    rw [e14, nI_1]
    exact a1
def dg (u : Nat → Nat) : Nat → Nat → Nat → Nat
  | 0, _, v => v
  | d + 1, k, v => dg u d (k + 1) (10 * v + (u k - 48))
theorem wf_loop {u : Nat → Nat} {e : Nat} (he : e ≤ 500) (n : Nat) : ∀ (d k v : Nat) (σT : MS), k + d = e → σT.1 5 = nI e → σT.1 4 = nI v → (∀ j, k ≤ j → j < e → (48 ≤ u j ∧ u j ≤ 57) ∧ σT.2 0 j = nI (u j)) → FT_weighFigures_29 (n + d + 1) σT (nI k) = some (setF σT 4 (nI (dg u d k v))) := by
  intro d
  induction d with
  | zero =>
    intro k v σT hk e5 e4 hj
    rw [FT_weighFigures_29, e5, if_pos (nI_le (by omega) (by omega))]
    show some σT = some (setF σT 4 (nI v))
    rw [← e4]
    refine congrArg some (Prod.ext (funext fun i => ?_) rfl)
    show σT.1 i = va_up σT.1 4 (σT.1 4) i
    by_cases z : i = 4
    · rw [z, va_up_self]
    · rw [va_up_ne _ _ z]
  | succ d ih =>
    intro k v σT hk e5 e4 hj
    obtain ⟨⟨h1, h2⟩, h3⟩ := hj k (Nat.le_refl _) (by omega)
    show FT_weighFigures_29 ((n + d + 1) + 1) σT (nI k) = _
    rw [FT_weighFigures_29, e5, if_neg (nI_ge (by omega) (by omega)), gd_nI (N := 500) (by omega) (by decide), nI_clamp (by omega)]
    simp only [nm]
    rw [h3, e4, show (nI v * 10 + (nI (u k) - 48) : Int32) = nI (10 * v + (u k - 48)) from by rw [show (10 : Int32) = nI 10 from rfl, pk_mul, show (48 : Int32) = nI 48 from rfl, pk_sub h1, nI_add, Nat.mul_comm], nI_1, ih (k + 1) (10 * v + (u k - 48)) (setF σT 4 (nI (10 * v + (u k - 48)))) (by omega) e5 rfl (fun j h1 h2 => hj j (by omega) h2)]
    refine congrArg some (Prod.ext (funext fun i => ?_) rfl)
    show va_up (va_up σT.1 4 _) 4 _ i = va_up σT.1 4 _ i
    rw [up_up]
    rfl
/-- the token that both look at: from s to e, of the class's sort y -/
def TK (m : Nat) (u : Nat → Nat) (σT σ : MS) (s e y : Nat) : Prop := s ≤ e ∧ e ≤ m ∧ y < 5 ∧ (σT.1 3 = nI s ∧ σT.1 5 = nI e ∧ σT.1 2 = nI y) ∧ (σ.1 14 = nI e ∧ σ.1 16 = nI s ∧ σ.1 17 = nI e ∧ σ.1 15 = nI ((y + 1) % 5)) ∧ (y = 1 → ∀ j, s ≤ j → j < e → 97 ≤ u j ∧ u j ≤ 122) ∧ (y = 2 → e ≤ s + 3 ∧ (∀ j, s ≤ j → j < e → 48 ≤ u j ∧ u j ≤ 57) ∧ σT.1 4 = nI (dg u (e - s) s 0))
theorem tok_2 {m : Nat} {u : Nat → Nat} {σT σ : MS} (h : TPu m u σT σ) {s : Nat} (hs : s ≤ m) (hg : s < m → kd (u s) ≠ 5) (e3 : σT.1 3 = nI s) (e14 : σ.1 14 = nI s) (n' : Nat) : ∃ (σT' σ' : MS) (e y : Nat), FT_step_44 σT = some σT' ∧ FM_next_0 (n' + 1) σ = some σ' ∧ TK m u σT' σ' s e y ∧ FrT σT σT' ∧ FrM σ σ' := by
  have hm := h.1
  have h' : TPu m u (setF σT 5 (nI s)) (setF σ 16 (nI s)) := h.fr (FrT.st _ _ (by decide)) (FrM.st _ _ (by decide))
  unfold FT_step_44
  simp only [nm]
  rw [e3, show (setF σT 5 (nI s)).1 1 = nI m from h.2.1, show (setF σT 5 (nI s)).1 3 = nI s from e3]
  rcases Nat.eq_or_lt_of_le hs with z | z
  · refine ⟨setF (setF σT 5 (nI s)) 2 0, setF (setF (setF σ 16 (nI s)) 15 1) 17 (nI s), s, 0, ?_, ?_, ⟨Nat.le_refl _, hs, by decide, ⟨e3, rfl, rfl⟩, ⟨e14, rfl, rfl, rfl⟩, fun q => (by cases q), fun q => (by cases q)⟩, (FrT.st _ _ (by decide)).tr (FrT.st _ _ (by decide)), ((FrM.st _ _ (by decide)).tr (FrM.st _ _ (by decide))).tr (FrM.st _ _ (by decide))⟩
    · rw [if_pos (nI_le (by omega) (by omega))]
      unfold FT_step_76 FT_step_151
      rfl
    · rw [FM_next_0, e14, show FM_byteAt σ (nI s) = some (-1000000) from by rw [z]; exact p_byteE h, Option.bind_some, if_neg (by decide), Option.bind_some, if_neg (by decide)]
      simp only [nm]
      rw [show (setF σ 16 (nI s)).1 14 = nI s from e14, show FM_byteAt (setF σ 16 (nI s)) (nI s) = some (-1000000) from by rw [z] at h' ⊢; exact p_byteE h', Option.bind_some, if_pos rfl, FM_next_196]
      simp only [nm]
      rw [show (setF (setF σ 16 (nI s)) 15 1).1 14 = nI s from e14]
  · have hk := hg z
    have hu := (h.2.2.2 s z).1
    have hb := kd_b (u s)
    have n32 : ¬ nI (u s) = 32 := fun e => hk (kd_5.mpr (Or.inl ((nI_eq (a := u s) (b := 32) (by omega) (by decide)).mp e)))
    have n10 : ¬ nI (u s) = 10 := fun e => hk (kd_5.mpr (Or.inr ((nI_eq (a := u s) (b := 10) (by omega) (by decide)).mp e)))
    rw [if_neg (nI_ge z (by omega)), p_sort h' z, Option.bind_some]
    rw [FM_next_0, e14, p_byte h z, Option.bind_some, if_neg n32, Option.bind_some, if_neg n10]
    simp only [nm]
    rw [show (setF σ 16 (nI s)).1 14 = nI s from e14, p_byte h' z, Option.bind_some, if_neg (nI_ne_none (by omega)), let_all _ hu, Option.bind_some, fig_all _ hu, Option.bind_some]
    unfold FT_step_76
    simp only [nm]
    rw [show (setF (setF σT 5 (nI s)) 2 (nI (kd (u s)))).1 2 = nI (kd (u s)) from rfl]
    have h2 : TPu m u (setF (setF σT 5 (nI s)) 2 (nI (kd (u s)))) (setF σ 16 (nI s)) := h'.fr (FrT.st _ _ (by decide)) (FrM.rf _)
    by_cases k1 : kd (u s) = 1
    · obtain ⟨e, σT', a1, a2, a3, a4, a5, a6, a7, a8, a9⟩ := run_L (y := 1) (4999 - (m - s)) (m - s) s _ _ (by omega) h2 rfl (by rw [k1]; rfl) (by decide)
      obtain ⟨σ', c1, c2, c3, c4, c5, c6⟩ := run_77 (e := e) (4999 - (e - s)) (e - s) s _ _ (by omega) a2 h' a3 a4 e14
      rw [show 4999 - (m - s) + (m - s) + 1 = fuelN from by show _ = 5000; omega] at a5
      rw [show 4999 - (e - s) + (e - s) + 1 = fuelN from by show _ = 5000; omega] at c1
      refine ⟨σT', σ', e, 1, ?_, ?_, ⟨a1, a2, by decide, ⟨a8.trans e3, a6, a7⟩, ⟨c2, c5, c4, c3⟩, fun _ j h1 h2 => kd_1 (a3 j h1 h2), fun q => (by cases q)⟩, ((FrT.st _ _ (by decide)).tr (FrT.st _ _ (by decide))).tr a9, (FrM.st _ _ (by decide)).tr c6⟩
      · rw [if_pos (by rw [k1]; rfl), a5, FT_step_151, a7, if_neg (by decide)]
      · rw [if_pos k1, if_neg one_ne_zero32]
        exact c1
    · by_cases k2 : kd (u s) = 2
      · obtain ⟨e, σT', a1, a2, a3, a4, a5, a6, a7, a8, a9⟩ := run_L (y := 2) (4999 - (m - s)) (m - s) s _ _ (by omega) h2 rfl (by rw [k2]; rfl) (by decide)
        obtain ⟨σ', c1, c2, c3, c4, c5, c6⟩ := run_119 (e := e) (s := s) a1 (4999 - (e - s)) (e - s) s _ _ (by omega) a2 h' a3 a4 e14 rfl
        rw [show 4999 - (m - s) + (m - s) + 1 = fuelN from by show _ = 5000; omega] at a5
        rw [show 4999 - (e - s) + (e - s) + 1 = fuelN from by show _ = 5000; omega] at c1
        have hTf : FrT σT σT' := ((FrT.st _ _ (by decide)).tr (FrT.st _ _ (by decide))).tr a9
        have hMf : FrM σ σ' := (FrM.st _ _ (by decide)).tr c6
        have eM : (if (if kd (u s) = 1 then (1 : Int32) else 0) = 0 then (if (if kd (u s) = 2 then (1 : Int32) else 0) = 0 then (if nI (u s) = 59 then (FM_next_193 (setF (setF σ 16 (nI s)) 14 (nI s + 1)) 4) else (FM_next_193 (setF (setF σ 16 (nI s)) 14 (nI s + 1)) 0)) else (FM_next_119 fuelN (setF σ 16 (nI s)))) else (FM_next_77 fuelN (setF σ 16 (nI s)))) = some σ' := by
          rw [if_neg k1, if_pos rfl, if_pos k2, if_neg one_ne_zero32]
          exact c1
        have e3' : σT'.1 3 = nI s := a8.trans e3
        by_cases q : e ≤ s + 3
        · have hwf := wf_loop (u := u) (e := e) (by omega) (4999 - (e - s)) (e - s) s 0 (setF σT' 4 0) (by omega) a6 rfl (fun j h1 h2 => ⟨kd_2 (a3 j h1 h2), by
            have := kd_2 (a3 j h1 h2)
            show σT'.2 0 j = _
            rw [hTf.2]
            exact (h.2.2.2 j (by omega)).2.2.1 (by omega)⟩)
          rw [show 4999 - (e - s) + (e - s) + 1 = fuelN from by show _ = 5000; omega] at hwf
          refine ⟨setF (setF σT' 4 0) 4 (nI (dg u (e - s) s 0)), σ', e, 2, ?_, eM, ⟨a1, a2, by decide, ⟨e3', a6, a7⟩, ⟨c2, c5, c4, by rw [c3, if_pos q]; rfl⟩, fun q => (by cases q), fun _ => ⟨q, fun j h1 h2 => kd_2 (a3 j h1 h2), rfl⟩⟩, (hTf.tr (FrT.st _ _ (by decide))).tr (FrT.st _ _ (by decide)), hMf⟩
          rw [if_neg (by rw [k2]; decide), if_pos (by rw [k2]; rfl), a5, FT_step_151, a7, if_pos (show nI 2 = 2 from rfl), FT_weighFigures, a6, e3', pk_sub a1, if_pos (show nI (e - s) ≤ 3 from nI_le (b := 3) (by omega) (by decide))]
          simp only [nm]
          rw [show (setF σT' 4 0).1 3 = nI s from e3', hwf]
          rfl
        · refine ⟨setF σT' 2 4, σ', e, 4, ?_, eM, ⟨a1, a2, by decide, ⟨e3', a6, rfl⟩, ⟨c2, c5, c4, by rw [c3, if_neg q]; rfl⟩, fun q => (by cases q), fun q => (by cases q)⟩, hTf.tr (FrT.st _ _ (by decide)), hMf⟩
          rw [if_neg (by rw [k2]; decide), if_pos (by rw [k2]; rfl), a5, FT_step_151, a7, if_pos (show nI 2 = 2 from rfl), FT_weighFigures, a6, e3', pk_sub a1, if_neg (show ¬ nI (e - s) ≤ 3 from nI_ge (a := 3) (by omega) (by omega))]
          rfl
      · have k34 : kd (u s) = 3 ∨ kd (u s) = 4 := by omega
        have hL : (if nI (kd (u s)) = 1 then FT_step_95 fuelN (setF (setF σT 5 (nI s)) 2 (nI (kd (u s)))) else if nI (kd (u s)) = 2 then FT_step_95 fuelN (setF (setF σT 5 (nI s)) 2 (nI (kd (u s)))) else if nI (kd (u s)) = 0 then FT_step_151 (setF (setF σT 5 (nI s)) 2 (nI (kd (u s)))) else FT_step_151 (setF (setF (setF σT 5 (nI s)) 2 (nI (kd (u s)))) 5 (nI s + 1))) = some (setF (setF (setF σT 5 (nI s)) 2 (nI (kd (u s)))) 5 (nI (s + 1))) := by
          rw [if_neg (by rcases k34 with e | e <;> rw [e] <;> decide), if_neg (by rcases k34 with e | e <;> rw [e] <;> decide), if_neg (by rcases k34 with e | e <;> rw [e] <;> decide), FT_step_151, nI_1, if_neg (show ¬ (setF (setF (setF σT 5 (nI s)) 2 (nI (kd (u s)))) 5 (nI (s + 1))).1 2 = 2 from by show ¬ nI (kd (u s)) = 2; rcases k34 with e | e <;> rw [e] <;> decide)]
        have hM : ∀ x : Int32, FM_next_193 (setF (setF σ 16 (nI s)) 14 (nI s + 1)) x = some (setF (setF (setF (setF σ 16 (nI s)) 14 (nI (s + 1))) 15 x) 17 (nI (s + 1))) := fun x => by
          unfold FM_next_193 FM_next_196
          simp only [nm]
          rw [nI_1]
          rfl
        refine ⟨setF (setF (setF σT 5 (nI s)) 2 (nI (kd (u s)))) 5 (nI (s + 1)), setF (setF (setF (setF σ 16 (nI s)) 14 (nI (s + 1))) 15 (nI ((kd (u s) + 1) % 5))) 17 (nI (s + 1)), s + 1, kd (u s), hL, ?_, ⟨by omega, by omega, by omega, ⟨e3, rfl, rfl⟩, ⟨rfl, rfl, rfl, rfl⟩, fun q => absurd q k1, fun q => absurd q k2⟩, ((FrT.st _ _ (by decide)).tr (FrT.st _ _ (by decide))).tr (FrT.st _ _ (by decide)), (((FrM.st _ _ (by decide)).tr (FrM.st _ _ (by decide))).tr (FrM.st _ _ (by decide))).tr (FrM.st _ _ (by decide))⟩
        rw [if_neg k1, if_pos rfl, if_neg k2, if_pos rfl]
        by_cases k3 : kd (u s) = 3
        · rw [if_pos (by rw [kd_3.mp k3]; rfl), hM, k3]
          rfl
        · have k4 : kd (u s) = 4 := by omega
          rw [if_neg (show ¬ nI (u s) = 59 from fun e => k3 (kd_3.mpr ((nI_eq (a := u s) (b := 59) (by omega) (by decide)).mp e))), hM, k4]
          rfl
theorem tok_step {m : Nat} {u : Nat → Nat} {σT σ : MS} (h : TPu m u σT σ) {i : Nat} (hi : i ≤ m) (e5 : σT.1 5 = nI i) (e14 : σ.1 14 = nI i) : ∃ (σT' σ' : MS) (s e y : Nat), FT_step σT = some σT' ∧ FM_next σ = some σ' ∧ TK m u σT' σ' s e y ∧ FrT σT σT' ∧ FrM σ σ' := by
  have hm := h.1
  unfold FT_step FM_next
  simp only [nm]
  obtain ⟨s, n', σT1, σ1, a1, a2, a3, a4, a5, a6, a7, a8, a9⟩ := gap_loop (4999 - (m - i)) (m - i) i (setF σT 3 (nI i)) σ (by omega) (h.fr (FrT.st _ _ (by decide)) (FrM.rf _)) rfl e14
  rw [show 4999 - (m - i) + (m - i) + 1 = fuelN from by show _ = 5000; omega] at a4 a5
  obtain ⟨σT', σ', e, y, b1, b2, b3, b4, b5⟩ := tok_2 ((h.fr (FrT.st _ _ (by decide)) (FrM.rf _)).fr a8 a9) a2 a3 a6 a7 n'
  refine ⟨σT', σ', s, e, y, ?_, a5.trans b2, b3, ((FrT.st _ _ (by decide)).tr a8).tr b4, a9.tr b5⟩
  rw [e5, a4]
  exact b1
/-! PURE: realm: words and numbers -/
def wl (u : Nat → Nat) : Nat → Nat → List Nat
  | 0, _ => []
  | d + 1, k => u k :: wl u d (k + 1)
def zw : List (List Nat) := [[108, 97, 119], [114, 111, 97, 100], [104, 111, 108, 100, 101, 114], [99, 111, 105, 110], [103, 111, 108, 100], [115, 105, 108, 118, 101, 114], [99, 111, 112, 112, 101, 114], [102, 111, 114, 103, 101, 100], [111, 108, 100]]
theorem zw_ok : ∀ i, i < 9 → (zw.getD i []).length = zlen.getD i 0 ∧ zlen.getD i 0 < 8 ∧ (∀ x ∈ zw.getD i [], 1 ≤ x ∧ x < 256) ∧ ∀ k, k < zlen.getD i 0 → zch i (nI k) = nI ((zw.getD i []).getD k 0) ∧ (zw.getD i []).getD k 0 < 256 := by decide +kernel
theorem wl_len (u : Nat → Nat) : ∀ d k, (wl u d k).length = d := by
  intro d
  induction d with
  | zero => intro k; rfl
  | succ d ih => intro k; show (wl u d (k + 1)).length + 1 = d + 1; rw [ih]
theorem wl_mem {u : Nat → Nat} : ∀ d k x, x ∈ wl u d k → ∃ j, k ≤ j ∧ j < k + d ∧ x = u j := by
  intro d
  induction d with
  | zero => intro k x h; cases h
  | succ d ih =>
    intro k x h
    rcases List.mem_cons.mp h with z | z
    · exact ⟨k, Nat.le_refl _, by omega, z⟩
    · obtain ⟨j, h1, h2, h3⟩ := ih (k + 1) x z
      exact ⟨j, by omega, by omega, h3⟩
theorem drop_cons {l : List Nat} {k : Nat} (h : k < l.length) : l.drop k = l.getD k 0 :: l.drop (k + 1) := by
  rw [List.drop_eq_getElem_cons h]
  simp [List.getD, h]
theorem isw_loop {m : Nat} {u : Nat → Nat} {σT σ : MS} (h : TPu m u σT σ) {s i : Nat} (hi : i < 9) (hem : s + zlen.getD i 0 ≤ m) (hl : ∀ j, s ≤ j → j < s + zlen.getD i 0 → 97 ≤ u j ∧ u j ≤ 122) (e3 : σT.1 3 = nI s) (n : Nat) : ∀ (d k : Nat), k + d = zlen.getD i 0 → FT_isWord_28 i (n + d + 1) σT (nI k) = some (if wl u d (s + k) = (zw.getD i []).drop k then 1 else 0) := by
  have hm := h.1
  obtain ⟨q1, q2, q4, q3⟩ := zw_ok i hi
  have hL : FJ_length i = some (nI (zlen.getD i 0)) := gd_t hi
  intro d
  induction d with
  | zero =>
    intro k hk
    rw [FT_isWord_28, hL, Option.bind_some, if_pos (nI_le (by omega) (by omega)), List.drop_eq_nil_of_le (by omega), if_pos (show wl u 0 (s + k) = [] from rfl)]
  | succ d ih =>
    intro k hk
    obtain ⟨q5, q6⟩ := q3 k (by omega)
    have hj := hl (s + k) (by omega) (by omega)
    have hb := (h.2.2.2 (s + k) (by omega)).2.2.1 (by omega)
    have hC : FJ_charAt i (nI k) = some (nI ((zw.getD i []).getD k 0)) := by
      unfold FJ_charAt
      rw [gd_t ⟨hi, nI_pos (by omega), nI_lt (by omega) (by omega)⟩, q5]
    show FT_isWord_28 i ((n + d + 1) + 1) σT (nI k) = _
    rw [FT_isWord_28, hL, Option.bind_some, if_neg (nI_ge (by omega) (by omega)), e3, nI_add, gd_nI (N := 500) (by omega) (by decide), nI_clamp (by omega), hC, Option.bind_some, hb, drop_cons (l := zw.getD i []) (k := k) (by omega), show wl u (d + 1) (s + k) = u (s + k) :: wl u d (s + k + 1) from rfl]
    by_cases z : u (s + k) = (zw.getD i []).getD k 0
    · rw [if_pos (by rw [z])]
      simp only [nm]
      rw [nI_1, ih (k + 1) (by omega), z, show s + (k + 1) = s + k + 1 from rfl]
      simp only [List.cons.injEq, true_and]
    · rw [if_neg (fun e => z ((nI_eq (by omega) (by omega)).mp e)), if_neg (fun e => z (List.cons.inj e).1)]
theorem p_isWord {m : Nat} {u : Nat → Nat} {σT σ : MS} (h : TPu m u σT σ) {s e y : Nat} (hk : TK m u σT σ s e y) {i : Nat} (hi : i < 9) : FT_isWord σT i = some (if y = 1 ∧ wl u (e - s) s = zw.getD i [] then 1 else 0) := by
  have hm := h.1
  obtain ⟨h1, h2, h3, ⟨a1, a2, a3⟩, -, hl, -⟩ := hk
  obtain ⟨q1, q2, -, -⟩ := zw_ok i hi
  have hL : FJ_length i = some (nI (zlen.getD i 0)) := gd_t hi
  unfold FT_isWord
  rw [a3, a1, a2, pk_sub h1, hL]
  by_cases z : y = 1
  · rw [if_pos (by rw [z]; rfl), Option.bind_some]
    by_cases z2 : e - s = zlen.getD i 0
    · have := isw_loop h (s := s) hi (by omega) (fun j j1 j2 => hl z j j1 (by omega)) a1 (4999 - zlen.getD i 0) (zlen.getD i 0) 0 (by omega)
      rw [show 4999 - zlen.getD i 0 + zlen.getD i 0 + 1 = fuelN from by show _ = 5000; omega] at this
      rw [if_pos (by rw [z2]), show FT_isWord_28 i fuelN σT 0 = _ from this, Nat.add_zero, List.drop_zero, z2]
      simp only [z, true_and]
    · rw [if_neg (fun e => z2 ((nI_eq (by omega) (by omega)).mp e)), if_neg (fun e => z2 (by rw [← q1, ← e.2, wl_len]))]
  · rw [if_neg (show ¬ nI y = 1 from fun e => z ((nI_eq (a := y) (b := 1) (by omega) (by decide)).mp e)), if_neg (fun e => z e.1)]
def pkf (l : List Nat) (v : Nat) : Nat := l.foldl (fun v x => v * 256 + x) v
theorem name_push {v x : Nat} (hv : v < 2 ^ 50) (hx : x < 256) : ((lN v <<< (Int32.toInt64 8 &&& 63)) ||| Int32.toInt64 (nI x) : Int64) = lN (v * 256 + x) := by
  rw [nI_l (by omega)]
  apply Int64.toBitVec_inj.mp
  rw [Int64.toBitVec_or, Int64.toBitVec_shiftLeft, show (Int32.toInt64 8 &&& 63 : Int64).toBitVec.smod 64 = BitVec.ofNat 64 8 from by decide]
  apply BitVec.eq_of_toNat_eq
  have h1 : (lN v).toBitVec.toNat = v := Nat.mod_eq_of_lt (by omega)
  have h2 : (lN x).toBitVec.toNat = x := Nat.mod_eq_of_lt (by omega)
  have h3 : (lN (v * 256 + x)).toBitVec.toNat = v * 256 + x := Nat.mod_eq_of_lt (by omega)
  rw [BitVec.toNat_or, BitVec.shiftLeft_eq', BitVec.toNat_shiftLeft, h1, h2, h3, show (BitVec.ofNat 64 8).toNat = 8 from rfl, Nat.shiftLeft_eq, Nat.mod_eq_of_lt (by omega)]
  have := Nat.two_pow_add_eq_or_of_lt (i := 8) (b := x) (by omega) v
  rw [Nat.mul_comm v (2 ^ 8), ← this]
theorem name_loop {m : Nat} {u : Nat → Nat} {σT σ : MS} (h : TPu m u σT σ) {s e : Nat} (he : e ≤ m) (hs8 : e < s + 8) (hse : s ≤ e) (e15 : σ.1 15 = 2) (e16 : σ.1 16 = nI s) (e17 : σ.1 17 = nI e) (n : Nat) : ∀ (d k v : Nat), k + d = e → s ≤ k → v < 256 ^ (k - s) → FM_name_7 (n + d + 1) σ (lN v) (nI k) = FM_name_56 σ (lN (pkf (wl u d k) v)) := by
  have hm := h.1
  intro d
  induction d with
  | zero =>
    intro k v hk hs hv
    rw [FM_name_7, e17, if_pos (nI_le (by omega) (by omega))]
    rfl
  | succ d ih =>
    intro k v hk hs hv
    obtain ⟨b1, b2, -⟩ := h.2.2.2 k (by omega)
    have hp : 256 ^ (k - s) ≤ 256 ^ 6 := Nat.pow_le_pow_right (by decide) (by omega)
    have hp6 : 256 ^ 6 < 2 ^ 50 := by decide
    show FM_name_7 ((n + d + 1) + 1) σ (lN v) (nI k) = _
    rw [FM_name_7, e17, if_neg (nI_ge (by omega) (by omega)), e15, if_pos rfl, e16, pk_sub hse, if_neg (show ¬ (8 : Int32) ≤ nI (e - s) from nI_ge (b := 8) (by omega) (by decide)), gd_nI (N := 500) (by omega) (by decide), nI_clamp (by omega)]
    simp only [nm]
    rw [b2, name_push (by omega) b1, nI_1, ih (k + 1) (v * 256 + u k) (by omega) (by omega) (by
      rw [show k + 1 - s = (k - s) + 1 from by omega, Nat.pow_succ]
      omega)]
    rfl
theorem pr_inj : ∀ (l l' : List Nat), (∀ x ∈ l, 1 ≤ x ∧ x < 256) → (∀ x ∈ l', 1 ≤ x ∧ x < 256) → l.foldr (fun x v => v * 256 + x) 0 = l'.foldr (fun x v => v * 256 + x) 0 → l = l' := by
  intro l
  induction l with
  | nil =>
    intro l' _ h' e
    cases l' with
    | nil => rfl
    | cons x l' =>
      have := h' x List.mem_cons_self
      have e : 0 = l'.foldr (fun x v => v * 256 + x) 0 * 256 + x := e
      omega
  | cons x l ih =>
    intro l' h h' e
    have hx := h x List.mem_cons_self
    cases l' with
    | nil =>
      have e : l.foldr (fun x v => v * 256 + x) 0 * 256 + x = 0 := e
      omega
    | cons x' l' =>
      have hx' := h' x' List.mem_cons_self
      have e : l.foldr (fun x v => v * 256 + x) 0 * 256 + x = l'.foldr (fun x v => v * 256 + x) 0 * 256 + x' := e
      have e1 : x = x' := by omega
      have e2 : l.foldr (fun x v => v * 256 + x) 0 = l'.foldr (fun x v => v * 256 + x) 0 := by omega
      rw [e1, ih l' (fun x hx => h x (List.mem_cons_of_mem _ hx)) (fun x hx => h' x (List.mem_cons_of_mem _ hx)) e2]
theorem pkf_inj {l l' : List Nat} (h : ∀ x ∈ l, 1 ≤ x ∧ x < 256) (h' : ∀ x ∈ l', 1 ≤ x ∧ x < 256) (e : pkf l 0 = pkf l' 0) : l = l' := by
  have e1 : ∀ l : List Nat, pkf l 0 = l.reverse.foldr (fun x v => v * 256 + x) 0 := fun l => (List.foldr_reverse).symm
  rw [e1, e1] at e
  have := pr_inj l.reverse l'.reverse (fun x hx => h x (List.mem_reverse.mp hx)) (fun x hx => h' x (List.mem_reverse.mp hx)) e
  exact List.reverse_inj.mp this
theorem pkf_lt : ∀ (l : List Nat) (v k : Nat), (∀ x ∈ l, x < 256) → v < 256 ^ k → pkf l v < 256 ^ (k + l.length) := by
  intro l
  induction l with
  | nil => intro v k _ hv; exact hv
  | cons x l ih =>
    intro v k h hv
    have hx := h x List.mem_cons_self
    have := ih (v * 256 + x) (k + 1) (fun x hx => h x (List.mem_cons_of_mem _ hx)) (by rw [Nat.pow_succ]; omega)
    show pkf l (v * 256 + x) < 256 ^ (k + (l.length + 1))
    rw [show k + (l.length + 1) = k + 1 + l.length from by omega]
    exact this
def zc (i : Nat) : Int64 := lN (pkf (zw.getD i []) 0)
theorem zc_ne : ∀ i, i < 9 → ¬ (0 : Int64) = zc i := by decide +kernel
theorem zc_lt : ∀ i, i < 9 → pkf (zw.getD i []) 0 < 2 ^ 63 := by decide +kernel
theorem p_name {m : Nat} {u : Nat → Nat} {σT σ : MS} (h : TPu m u σT σ) {s e y : Nat} (hk : TK m u σT σ s e y) : ∃ v : Int64, FM_name σ = FM_name_56 σ v ∧ ∀ i, i < 9 → FT_isWord σT i = some (if v = zc i then 1 else 0) := by
  have hm := h.1
  have hW := fun i hi => p_isWord h hk (i := i) hi
  obtain ⟨h1, h2, h3, -, ⟨b1, b2, b3, b4⟩, hl, -⟩ := hk
  unfold FM_name
  simp only [nm]
  rw [b2]
  by_cases z : y = 1
  · have e15 : σ.1 15 = 2 := by rw [b4, z]; rfl
    by_cases z8 : e < s + 8
    · refine ⟨lN (pkf (wl u (e - s) s) 0), ?_, fun i hi => ?_⟩
      · have := name_loop h h2 z8 h1 e15 b2 b3 (4999 - (e - s)) (e - s) s 0 (by omega) (Nat.le_refl _) (Nat.pow_pos (by decide))
        rw [show 4999 - (e - s) + (e - s) + 1 = fuelN from by show _ = 5000; omega] at this
        exact this
      · rw [hW i hi]
        obtain ⟨q1, q2, q4, -⟩ := zw_ok i hi
        have hb : ∀ x ∈ wl u (e - s) s, 1 ≤ x ∧ x < 256 := fun x hx => by
          obtain ⟨j, j1, j2, rfl⟩ := wl_mem _ _ _ hx
          have := hl z j j1 (by omega)
          omega
        have hlt : pkf (wl u (e - s) s) 0 < 2 ^ 63 := by
          have := pkf_lt (wl u (e - s) s) 0 0 (fun x hx => (hb x hx).2) (by decide)
          rw [wl_len, Nat.zero_add] at this
          have h7 : 256 ^ (e - s) ≤ 256 ^ 7 := Nat.pow_le_pow_right (by decide) (by omega)
          have : (256 : Nat) ^ 7 < 2 ^ 63 := by decide
          omega
        by_cases q : wl u (e - s) s = zw.getD i []
        · rw [if_pos ⟨z, q⟩, if_pos (by rw [q]; rfl)]
        · rw [if_neg (fun e => q e.2), if_neg (show ¬ lN (pkf (wl u (e - s) s) 0) = zc i from fun e => q (pkf_inj hb q4 ((pk_lEQ hlt (zc_lt i hi)).mp e)))]
    · refine ⟨0, ?_, fun i hi => ?_⟩
      · show FM_name_7 (4999 + 1) σ 0 (nI s) = _
        rw [FM_name_7, b3, if_neg (nI_ge (by omega) (by omega)), e15, if_pos rfl, b2, pk_sub h1, if_pos (show (8 : Int32) ≤ nI (e - s) from nI_le (a := 8) (by omega) (by omega))]
      · rw [hW i hi, if_neg (zc_ne i hi), if_neg (fun q => by
          obtain ⟨q1, q2, -, -⟩ := zw_ok i hi
          have := congrArg List.length q.2
          rw [wl_len, q1] at this
          omega)]
  · refine ⟨0, ?_, fun i hi => ?_⟩
    · show FM_name_7 (4999 + 1) σ 0 (nI s) = _
      rw [FM_name_7, b3]
      by_cases q : e ≤ s
      · rw [if_pos (nI_le q (by omega))]
      · rw [if_neg (nI_ge (by omega) (by omega)), b4, if_neg (fun e => by
          have := (nI_eq (a := (y + 1) % 5) (b := 2) (by omega) (by decide)).mp e
          omega)]
    · rw [hW i hi, if_neg (zc_ne i hi), if_neg (fun q => z q.1)]
theorem fig_loop {m : Nat} {u : Nat → Nat} {σT σ : MS} (h : TPu m u σT σ) {s e : Nat} (he : e ≤ m) (hf : ∀ j, s ≤ j → j < e → 48 ≤ u j ∧ u j ≤ 57) (e15 : σ.1 15 = 3) (e17 : σ.1 17 = nI e) (n : Nat) : ∀ (d k v : Nat), k + d = e → s ≤ k → FM_figures_7 (n + d + 1) σ (nI v) (nI k) = some (nI (dg u d k v)) := by
  have hm := h.1
  intro d
  induction d with
  | zero =>
    intro k v hk hs
    rw [FM_figures_7, e17, if_pos (nI_le (by omega) (by omega))]
    rfl
  | succ d ih =>
    intro k v hk hs
    obtain ⟨b1, b2, -⟩ := h.2.2.2 k (by omega)
    have hd := hf k hs (by omega)
    show FM_figures_7 ((n + d + 1) + 1) σ (nI v) (nI k) = _
    rw [FM_figures_7, e17, if_neg (nI_ge (by omega) (by omega)), e15, if_pos rfl, gd_nI (N := 500) (by omega) (by decide), nI_clamp (by omega)]
    simp only [nm]
    rw [b2, show (10 * nI v + nI (u k) - 48 : Int32) = nI (10 * v + (u k - 48)) from by rw [show (10 : Int32) = nI 10 from rfl, pk_mul, nI_add, show (48 : Int32) = nI 48 from rfl, pk_sub (by omega), show 10 * v + u k - 48 = 10 * v + (u k - 48) from by omega], nI_1, ih (k + 1) _ (by omega) (by omega)]
    rfl
theorem dg_lt {u : Nat → Nat} {s e : Nat} (hf : ∀ j, s ≤ j → j < e → 48 ≤ u j ∧ u j ≤ 57) : ∀ (d k v : Nat), k + d = e → s ≤ k → dg u d k v < (v + 1) * 10 ^ d := by
  intro d
  induction d with
  | zero => intro k v _ _; show v < (v + 1) * 1; omega
  | succ d ih =>
    intro k v hk hs
    have hd := hf k hs (by omega)
    have h1 := ih (k + 1) (10 * v + (u k - 48)) (by omega) (by omega)
    have h2 : (10 * v + (u k - 48) + 1) * 10 ^ d ≤ (10 * (v + 1)) * 10 ^ d := Nat.mul_le_mul_right _ (by omega)
    have h3 : (10 * (v + 1)) * 10 ^ d = (v + 1) * 10 ^ (d + 1) := by rw [Nat.pow_succ, Nat.mul_comm 10 (v + 1), Nat.mul_assoc, Nat.mul_comm 10 (10 ^ d)]
    show dg u d (k + 1) (10 * v + (u k - 48)) < _
    omega
theorem p_figs {m : Nat} {u : Nat → Nat} {σT σ : MS} (h : TPu m u σT σ) {s e : Nat} (hk : TK m u σT σ s e 2) : ∃ v, v ≤ 999 ∧ σT.1 4 = nI v ∧ FM_figures σ = some (nI v) := by
  have hm := h.1
  obtain ⟨h1, h2, h3, -, ⟨b1, b2, b3, b4⟩, -, hf⟩ := hk
  obtain ⟨f1, f2, f3⟩ := hf rfl
  refine ⟨dg u (e - s) s 0, ?_, f3, ?_⟩
  · have := dg_lt f2 (e - s) s 0 (by omega) (Nat.le_refl _)
    have h10 : 10 ^ (e - s) ≤ 10 ^ 3 := Nat.pow_le_pow_right (by decide) (by omega)
    omega
  · unfold FM_figures
    simp only [nm]
    have := fig_loop h h2 f2 (by rw [b4]; rfl) b3 (4999 - (e - s)) (e - s) s 0 (by omega) (Nat.le_refl _)
    rw [show 4999 - (e - s) + (e - s) + 1 = fuelN from by show _ = 5000; omega] at this
    rw [b2]
    exact this
/-! PURE: realm: both readers at one token (JG), or both at one fault (JB) -/
def FrP (a b : MS) : Prop := (∀ i, i ≠ 14 → i ≠ 15 → i ≠ 16 → i ≠ 17 → i ≠ 18 → i ≠ 19 → b.1 i = a.1 i) ∧ (∀ i, i ≠ 6 → b.2 i = a.2 i)
theorem FrP.rf (a : MS) : FrP a a := ⟨fun _ _ _ _ _ _ _ => rfl, fun _ _ => rfl⟩
theorem FrP.tr {a b c : MS} (h : FrP a b) (h' : FrP b c) : FrP a c := ⟨fun i h0 h1 h2 h3 h4 h5 => (h'.1 i h0 h1 h2 h3 h4 h5).trans (h.1 i h0 h1 h2 h3 h4 h5), fun i hi => (h'.2 i hi).trans (h.2 i hi)⟩
theorem FrM.p {a b : MS} (h : FrM a b) : FrP a b := ⟨fun i h0 h1 h2 h3 _ _ => h.1 i h0 h1 h2 h3, fun i _ => by rw [h.2]⟩
theorem FrP.A6 (σ : MS) (i : Nat) (x : Int32) : FrP σ (setA σ 6 i x) := ⟨fun _ _ _ _ _ _ _ => rfl, fun _ hi => va_up_ne _ _ hi⟩
def JG (m : Nat) (u : Nat → Nat) (σ0 σT σ : MS) : Prop := TPu m u σT σ ∧ (∃ s e y, TK m u σT σ s e y) ∧ σ.1 18 = 0 ∧ FrP σ0 σ
def JB (m : Nat) (u : Nat → Nat) (σ0 σR σ : MS) : Prop := ∃ f : Nat, 1 ≤ f ∧ f ≤ 3 ∧ σ.1 18 = nI f ∧ σR.1 2 = nI f ∧ σ.1 19 = σR.1 3 ∧ (∃ σT s e y, TPu m u σT σ ∧ TK m u σT σ s e y) ∧ FrP σ0 σ
theorem JB.A6 {m : Nat} {u : Nat → Nat} {σ0 σR σ : MS} (h : JB m u σ0 σR σ) (i : Nat) (x : Int32) : JB m u σ0 σR (setA σ 6 i x) := by
  obtain ⟨f, h1, h3, e, e2, e3, ⟨σT, s, e', y, hT, hK⟩, hF⟩ := h
  exact ⟨f, h1, h3, e, e2, e3, ⟨σT, s, e', y, hT, hK⟩, hF.tr (FrP.A6 σ i x)⟩
section JJ
variable {m : Nat} {u : Nat → Nat} {σ0 σT σR σ : MS}
theorem JG.A6 (h : JG m u σ0 σT σ) (i : Nat) (x : Int32) : JG m u σ0 σT (setA σ 6 i x) := ⟨h.1, h.2.1, h.2.2.1, h.2.2.2.tr (FrP.A6 σ i x)⟩
theorem bf_pos {f : Nat} (h1 : 1 ≤ f) (h3 : f ≤ 3) : ¬ nI f = 0 ∧ ¬ nI f ≤ 0 := ⟨nI_ne0 (by omega) (by omega), nI_nle (by omega) (by omega)⟩
theorem JB.bad (h : JB m u σ0 σR σ) (x : Int32) : FM_bad σ x = some σ := by
  obtain ⟨f, h1, h3, e, -⟩ := h
  rw [FM_bad, e, if_neg (bf_pos h1 h3).1]
theorem JB.must (h : JB m u σ0 σR σ) (x : Int32) : FM_must σ x = some σ := by
  have hb := h.bad
  obtain ⟨f, h1, h3, e, -⟩ := h
  have h9 : FM_must_9 σ = some σ := by rw [FM_must_9, e, if_neg (bf_pos h1 h3).1]
  rw [FM_must, hb, Option.bind_some, h9, ite_self]
theorem JB.num (h : JB m u σ0 σR σ) (a b : Int32) : FM_number σ a b = some (0, σ) := by
  obtain ⟨f, h1, h3, e, -⟩ := h
  rw [FM_number, e, if_neg (bf_pos h1 h3).2]
theorem JB.end_ (h : JB m u σ0 σR σ) : FM_mustEnd σ = some σ := by
  obtain ⟨f, h1, h3, e, -⟩ := h
  rw [FM_mustEnd, e, if_neg (bf_pos h1 h3).1]
theorem JB.name (h : JB m u σ0 σR σ) : FM_name σ = some 0 := by
  obtain ⟨f, h1, h3, e, -, -, ⟨σT, s, e', y, hT, hK⟩, -⟩ := h
  obtain ⟨v, hv, -⟩ := p_name hT hK
  rw [hv, FM_name_56, e, if_neg (bf_pos h1 h3).1]
theorem JG.name (h : JG m u σ0 σT σ) : ∃ v : Int64, FM_name σ = some v ∧ ∀ i, i < 9 → FT_isWord σT i = some (if v = zc i then 1 else 0) := by
  obtain ⟨hT, ⟨s, e, y, hK⟩, h0, -⟩ := h
  obtain ⟨v, hv, hw⟩ := p_name hT hK
  exact ⟨v, by rw [hv, FM_name_56, h0, if_pos rfl], hw⟩
theorem JG.fail (h : JG m u σ0 σT σ) (σR : MS) {f : Nat} (h1 : 1 ≤ f) (h3 : f ≤ 3) : ∃ σR' σ', FM_bad σ (nI f) = some σ' ∧ FR_faulty σR σT (nI f) = some (0, σR') ∧ JB m u σ0 σR' σ' ∧ σ'.1 15 = σ.1 15 ∧ σ'.2 = σ.2 := by
  obtain ⟨hT, ⟨s, e, y, hK⟩, h0, hF⟩ := h
  have hK' := hK
  obtain ⟨k1, k2, k3, ⟨a1, a2, a3⟩, ⟨b1, b2, b3, b4⟩, k4, k5⟩ := hK'
  refine ⟨setF (setF σR 2 (nI f)) 3 (nI s), setF (setF σ 18 (nI f)) 19 (nI s), ?_, ?_, ⟨f, h1, h3, rfl, rfl, rfl, ⟨σT, s, e, y, hT, hK⟩, hF.tr ⟨fun i _ _ _ _ q1 q2 => (va_up_ne _ _ q2).trans (va_up_ne _ _ q1), fun _ _ => rfl⟩⟩, rfl, rfl⟩
  · rw [FM_bad, h0, if_pos rfl]
    simp only [nm]
    rw [show (setF σ 18 (nI f)).1 16 = nI s from b2]
  · rw [FR_faulty]
    simp only [nm]
    rw [a1]
theorem JG.next (h : JG m u σ0 σT σ) : ∃ σT' σ', FT_step σT = some σT' ∧ FM_next σ = some σ' ∧ FM_must σ 1 = some σ' ∧ JG m u σ0 σT' σ' ∧ σ'.2 = σ.2 := by
  obtain ⟨hT, ⟨s, e, y, hK⟩, h0, hF⟩ := h
  obtain ⟨k1, k2, k3, ⟨a1, a2, a3⟩, ⟨b1, b2, b3, b4⟩, k4, k5⟩ := hK
  obtain ⟨σT', σ', s', e', y', i1, i2, i3, i4, i5⟩ := tok_step hT k2 a2 b1
  refine ⟨σT', σ', i1, i2, ?_, ⟨hT.fr i4 i5, ⟨s', e', y', i3⟩, (i5.1 18 (by decide) (by decide) (by decide) (by decide)).trans h0, hF.tr i5.p⟩, i5.2⟩
  rw [FM_must, if_neg one_ne_zero32, FM_must_9, h0, if_pos rfl, i2]
  rfl
theorem JG.must0 (h : JG m u σ0 σT σ) (σR : MS) : ∃ σR' σ', FM_must σ 0 = some σ' ∧ FR_faulty σR σT 1 = some (0, σR') ∧ JB m u σ0 σR' σ' ∧ σ'.2 = σ.2 := by
  obtain ⟨σR', σ', i1, i2, i3, -, i5⟩ := h.fail σR (f := 1) (by decide) (by decide)
  refine ⟨σR', σ', ?_, i2, i3, i5⟩
  rw [FM_must, if_pos rfl, show FM_bad σ 1 = _ from i1, Option.bind_some]
  obtain ⟨f, h1, h3, e, -⟩ := i3
  rw [FM_must_9, e, if_neg (bf_pos h1 h3).1]
theorem JG.sort (h : JG m u σ0 σT σ) : (σT.1 2 = 2 ↔ σ.1 15 = 3) ∧ (σT.1 2 = 3 ↔ σ.1 15 = 4) ∧ (σT.1 2 = 0 ↔ σ.1 15 = 1) ∧ (σT.1 2 = 2 → ∃ v, v ≤ 999 ∧ σT.1 4 = nI v ∧ FM_figures σ = some (nI v)) := by
  obtain ⟨hT, ⟨s, e, y, hK⟩, h0, hF⟩ := h
  have hK' := hK
  obtain ⟨k1, k2, k3, ⟨a1, a2, a3⟩, ⟨b1, b2, b3, b4⟩, k4, k5⟩ := hK'
  rw [a3, b4]
  have hy : y = 0 ∨ y = 1 ∨ y = 2 ∨ y = 3 ∨ y = 4 := by omega
  refine ⟨?_, ?_, ?_, fun q => ?_⟩
  · rcases hy with rfl | rfl | rfl | rfl | rfl <;> decide
  · rcases hy with rfl | rfl | rfl | rfl | rfl <;> decide
  · rcases hy with rfl | rfl | rfl | rfl | rfl <;> decide
  · have : y = 2 := (nI_eq (a := y) (b := 2) (by omega) (by decide)).mp q
    subst this
    exact p_figs hT hK
theorem JG.num (h : JG m u σ0 σT σ) (σR : MS) (a b : Int32) : (∃ v σT' σ', v ≤ 999 ∧ a ≤ nI v ∧ nI v ≤ b ∧ (σT.1 2 = 2 ∧ σT.1 4 = nI v) ∧ FR_takeNumber σR σT a b = some (1, setF σR 1 (nI v), σT') ∧ FM_number σ a b = some (nI v, σ') ∧ JG m u σ0 σT' σ' ∧ σ'.2 = σ.2) ∨ (∃ x σR' σ', FR_takeNumber σR σT a b = some (0, σR', σT) ∧ FM_number σ a b = some (x, σ') ∧ JB m u σ0 σR' σ' ∧ σ'.2 = σ.2) := by
  obtain ⟨s1, -, -, s4⟩ := h.sort
  have h0 := h.2.2.1
  unfold FR_takeNumber FM_number
  rw [h0, if_pos (show (0 : Int32) ≤ 0 by decide)]
  by_cases z : σT.1 2 = 2
  · obtain ⟨v, hv, ev, ef⟩ := s4 z
    have z15 := s1.mp z
    rw [if_pos z, ev, p_outside, Option.bind_some, ef, Option.bind_some, if_pos z15, p_in, Option.bind_some]
    by_cases hr : a ≤ nI v ∧ nI v ≤ b
    · refine Or.inl ?_
      obtain ⟨σT', σ', i1, -, i2, i3, i4⟩ := h.next
      refine ⟨v, σT', σ', hv, hr.1, hr.2, ⟨z, rfl⟩, ?_, ?_, i3, i4⟩
      · rw [if_pos hr, if_pos rfl]
        simp only [nm]
        rw [i1]
        rfl
      · rw [if_pos hr, if_neg one_ne_zero32, FM_number_39, if_pos z15, FM_number_53, i2]
        rfl
    · refine Or.inr ?_
      obtain ⟨σR', σ', i1, i2, i3, i4, i5⟩ := h.fail σR (f := 2) (by decide) (by decide)
      refine ⟨nI v, σR', σ', ?_, ?_, i3, i5⟩
      · rw [if_neg hr, if_neg one_ne_zero32, show FR_faulty σR σT 2 = _ from i2, bd2_s, gd_t (Or.inl rfl)]
      · rw [if_neg hr, if_pos rfl, show FM_bad σ 2 = _ from i1, Option.bind_some, FM_number_39, i4, if_pos z15, FM_number_53, i3.must]
        rfl
  · have z15 : ¬ σ.1 15 = 3 := fun q => z (s1.mpr q)
    refine Or.inr ?_
    obtain ⟨σR', σ', i1, i2, i3, i5⟩ := h.must0 σR
    have hfig : ∃ x, FM_figures σ = some x := by
      obtain ⟨hT, ⟨s, e, y, hK⟩, -, -⟩ := h
      obtain ⟨k1, k2, k3, -, ⟨b1, b2, b3, b4⟩, -, -⟩ := hK
      have hm := hT.1
      refine ⟨0, ?_⟩
      unfold FM_figures
      simp only [nm]
      show FM_figures_7 (4999 + 1) σ 0 _ = _
      rw [FM_figures_7, b3, b2, if_neg z15, ite_self]
    obtain ⟨x, hx⟩ := hfig
    refine ⟨x, σR', σ', ?_, ?_, i3, i5⟩
    · rw [if_neg z, i2, bd2_s, gd_t (Or.inl rfl)]
    · rw [hx, Option.bind_some, if_neg z15, FM_number_39, if_neg z15, FM_number_53, i1]
      rfl
theorem JG.sign (h : JG m u σ0 σT σ) (σR : MS) : (∃ σT' σ', FR_takeSign σR σT = some (1, σR, σT') ∧ FM_mustEnd σ = some σ' ∧ JG m u σ0 σT' σ' ∧ σ'.2 = σ.2) ∨ (∃ σR' σ', FR_takeSign σR σT = some (0, σR', σT) ∧ FM_mustEnd σ = some σ' ∧ JB m u σ0 σR' σ' ∧ σ'.2 = σ.2) := by
  obtain ⟨-, s2, -, -⟩ := h.sort
  have h0 := h.2.2.1
  unfold FR_takeSign FM_mustEnd
  rw [h0, if_pos rfl]
  by_cases z : σT.1 2 = 3
  · refine Or.inl ?_
    obtain ⟨σT', σ', i1, -, i2, i3, i4⟩ := h.next
    refine ⟨σT', σ', ?_, ?_, i3, i4⟩
    · rw [if_pos z, i1]
      rfl
    · rw [if_pos (s2.mp z), FM_mustEnd_21, i2]
      rfl
  · refine Or.inr ?_
    obtain ⟨σR', σ', i1, i2, i3, i5⟩ := h.must0 σR
    refine ⟨σR', σ', ?_, ?_, i3, i5⟩
    · rw [if_neg z, i2, bd2_s, gd_t (Or.inl rfl)]
    · rw [if_neg (fun q => z (s2.mpr q)), FM_mustEnd_21, i1]
      rfl
theorem JG.begins (h : JG m u σ0 σT σ) {a : Nat} (ha : a < 147) {b : Int32} (hb : ¬ σ.2 6 a = b) : ∃ σT' σ', FT_step σT = some σT' ∧ FM_begins σ (nI a) b = some σ' ∧ JG m u σ0 σT' σ' ∧ σ'.2 = σ.2 := by
  obtain ⟨σT', σ', i1, -, i2, i3, i4⟩ := h.next
  refine ⟨σT', σ', i1, ?_, i3, i4⟩
  rw [FM_begins, gd_nI (N := 147) ha (by decide), nI_clamp (by omega), if_neg hb, FM_begins_15, i2]
  rfl
theorem JG.beginsF (h : JG m u σ0 σT σ) (σR : MS) {a : Nat} (ha : a < 147) {b : Int32} (hb : σ.2 6 a = b) : ∃ σR' σ', FR_faulty σR σT 3 = some (0, σR') ∧ FM_begins σ (nI a) b = some σ' ∧ JB m u σ0 σR' σ' ∧ σ'.2 = σ.2 := by
  obtain ⟨σR', σ', i1, i2, i3, i4, i5⟩ := h.fail σR (f := 3) (by decide) (by decide)
  refine ⟨σR', σ', i2, ?_, i3, i5⟩
  rw [FM_begins, gd_nI (N := 147) ha (by decide), nI_clamp (by omega), if_pos hb, show FM_bad σ 3 = _ from i1, Option.bind_some, FM_begins_15, i3.must]
  rfl
/-- after a fault the reference does nothing more -/
theorem JB.e186 (h : JB m u σ0 σR σ) : FM_realm_186 σ = some (-1000100 - σR.1 3, setF σ 12 (σR.1 2)) := by
  obtain ⟨f, h1, h3, e, e2, e3, -⟩ := h
  rw [FM_realm_186, e, if_neg (bf_pos h1 h3).2]
  simp only [nm]
  rw [show (setF σ 12 (nI f)).1 19 = σ.1 19 from rfl, e3, e2]
theorem lc_ne0 : ∀ x ∈ ([1668245870, 114827769177458, 1919902052] : List Int64), ¬ lg_cmp 0 x = 0 := by decide +kernel
theorem JB.e148 (h : JB m u σ0 σR σ) (n : Nat) : FM_realm_148 (n + 1) σ = some (-1000100 - σR.1 3, setF σ 12 (σR.1 2)) := by
  have h186 := h.e186
  rw [FM_realm_148, h.name, Option.bind_some, if_neg (lc_ne0 _ (by decide)), h186]
  obtain ⟨f, h1, h3, e, -⟩ := h
  rw [e, if_neg (bf_pos h1 h3).1]
theorem JB.e130 (h : JB m u σ0 σR σ) (n : Nat) : FM_realm_130 (n + 1) σ = some (-1000100 - σR.1 3, setF σ 12 (σR.1 2)) := by
  rw [FM_realm_130, h.name, Option.bind_some, if_neg (lc_ne0 _ (by decide))]
  exact h.e148 4999
theorem JB.e112 (h : JB m u σ0 σR σ) (n : Nat) : FM_realm_112 (n + 1) σ = some (-1000100 - σR.1 3, setF σ 12 (σR.1 2)) := by
  rw [FM_realm_112, h.name, Option.bind_some, if_neg (lc_ne0 _ (by decide))]
  exact h.e130 4999
end JJ
/-! PURE: realm: what is read so far, both sides -/
def cap (x : Nat) : Nat := if x < 1000000 then x else 10000
def WR (w : Nat → Nat → Nat) : Prop := ∀ a b, a < 8 → b < 8 → (w a b = 1000000 ∨ w a b ≤ 90) ∧ w a b = w b a ∧ (a = b → w a b = 0) ∧ (a ≠ b → 1 ≤ w a b)
def DRp (r h c : Nat) (told leave holders coins : Int32) (ways towns kinds ch g : Nat → Int32) : Prop :=
  (told = 0 ∧ leave = g 0 ∧ 0 ≤ g 0 ∧ g 0 ≤ 400) ∧ (g 1 = nI r ∧ r ≤ 14) ∧ (holders = nI h ∧ g 2 = nI h ∧ h ≤ 6) ∧ (coins = nI c ∧ g 3 = nI c ∧ c ≤ 12) ∧ (g 4 = 0 ∧ ch 60 = 0) ∧
  (∃ w : Nat → Nat → Nat, WR w ∧ ∀ a b, a < 8 → b < 8 → ways (8 * a + b) = nI (w a b) ∧ g (5 + 8 * a + b) = nI (cap (w a b))) ∧
  (∀ i, i < h → ∃ t, 1 ≤ t ∧ t ≤ 7 ∧ towns i = nI t ∧ g (69 + i) = nI t) ∧
  (∀ j, j < c → ∃ kk q a, 1 ≤ kk ∧ kk ≤ 5 ∧ q < h ∧ a ≤ 400 ∧ kinds j = nI kk ∧ g (75 + 6 * j) = nI kk ∧ ch (5 * j) = nI q ∧ g (76 + 6 * j) = nI q ∧ ch (5 * j + 1) = nI a ∧ g (77 + 6 * j) = nI a) ∧
  (∀ j, j < 12 → ∀ f, 2 ≤ f → f < 5 → ch (5 * j + f) = 0 ∧ g (76 + 6 * j + f) = 0)
abbrev DR (r h c : Nat) (σG : MS) (g : Nat → Int32) : Prop := DRp r h c (σG.1 4) (σG.1 5) (σG.1 6) (σG.1 7) (σG.2 0) (σG.2 1) (σG.2 2) (σG.2 3) g
theorem A6g (σ : MS) (i : Nat) (x : Int32) : (setA σ 6 i x).2 6 = upd (σ.2 6) i x := va_up_self σ.2 6 (upd (σ.2 6) i x)
theorem cap_low {x : Nat} (h : x ≤ 999) : cap x = x := if_pos (by omega)
section DD
variable {r h c : Nat} {told leave holders coins : Int32} {ways towns kinds ch g : Nat → Int32}
theorem DRp.leave' (D : DRp r h c told leave holders coins ways towns kinds ch g) {v : Nat} (hv : v ≤ 400) : DRp r h c told (nI v) holders coins ways towns kinds ch (upd g 0 (nI v)) := by
  obtain ⟨⟨d1, d2, d3, d4⟩, ⟨e1, e2⟩, ⟨f1, f2, f3⟩, ⟨g1, g2, g3⟩, ⟨h1, h2⟩, ⟨w, w1, w2⟩, ht, hc, hz⟩ := D
  refine ⟨⟨d1, by rw [pk_us], by rw [pk_us]; exact nI_pos' (by omega), by rw [pk_us]; exact nI_le (b := 400) hv (by decide)⟩, ⟨by rw [pk_un (by decide)]; exact e1, e2⟩, ⟨f1, by rw [pk_un (by decide)]; exact f2, f3⟩, ⟨g1, by rw [pk_un (by decide)]; exact g2, g3⟩, ⟨by rw [pk_un (by decide)]; exact h1, h2⟩, ⟨w, w1, fun a b ha hb => ?_⟩, fun i hi => ?_, fun j hj => ?_, fun j hj f q1 q2 => ?_⟩
  · rw [pk_un (by omega)]; exact w2 a b ha hb
  · rw [pk_un (by omega)]; exact ht i hi
  · rw [pk_un (by omega), pk_un (by omega), pk_un (by omega)]; exact hc j hj
  · rw [pk_un (by omega)]; exact hz j hj f q1 q2
theorem DRp.road (D : DRp r h c told leave holders coins ways towns kinds ch g) (hr : r < 14) {a b d : Nat} (ha : a < 8) (hb : b < 8) (hab : a ≠ b) (hd1 : 1 ≤ d) (hd : d ≤ 90) : ∃ z : Nat, (if nI d < ways (8 * a + b) then nI d else ways (8 * a + b)) = nI z ∧ (if nI d ≤ g (5 + 8 * a + b) then nI d else g (5 + 8 * a + b)) = nI z ∧ DRp (r + 1) h c told leave holders coins (upd (upd ways (8 * a + b) (nI z)) (8 * b + a) (nI z)) towns kinds ch (upd (upd (upd g (5 + 8 * a + b) (nI z)) (5 + 8 * b + a) (nI z)) 1 (nI (r + 1))) := by
  obtain ⟨⟨d1, d2, d3, d4⟩, ⟨e1, e2⟩, ⟨f1, f2, f3⟩, ⟨g1, g2, g3⟩, ⟨h1, h2⟩, ⟨w, w1, w2⟩, ht, hc, hz⟩ := D
  obtain ⟨x1, x2⟩ := w2 a b ha hb
  obtain ⟨y1, y2, y3, y4⟩ := w1 a b ha hb
  have hwl : w a b ≤ 1000000 := by omega
  have hcap : cap (w a b) = w a b ∨ (w a b = 1000000 ∧ cap (w a b) = 10000) := by
    rcases y1 with y | y
    · right; exact ⟨y, by rw [y]; rfl⟩
    · left; exact cap_low (by omega)
  refine ⟨min d (w a b), ?_, ?_, ?_⟩
  · rw [x1]
    by_cases z : d < w a b
    · rw [if_pos (nI_lt z (by omega)), Nat.min_eq_left (by omega)]
    · rw [if_neg (nI_nlt (by omega) (by omega)), Nat.min_eq_right (by omega)]
  · rw [x2]
    by_cases z : d ≤ cap (w a b)
    · rw [if_pos (nI_le z (by omega)), Nat.min_eq_left (by omega)]
    · rw [if_neg (nI_ge (by omega) (by omega)), show cap (w a b) = min d (w a b) from by omega]
  · have hmin : min d (w a b) ≤ 90 := Nat.le_trans (Nat.min_le_left _ _) hd
    have hmin1 : 1 ≤ min d (w a b) := by have := y4 hab; omega
    generalize min d (w a b) = z at hmin hmin1
    refine ⟨⟨d1, by rw [pk_un (by decide), pk_un (by omega), pk_un (by omega)]; exact d2, by rw [pk_un (by decide), pk_un (by omega), pk_un (by omega)]; exact d3, by rw [pk_un (by decide), pk_un (by omega), pk_un (by omega)]; exact d4⟩, ⟨by rw [pk_us], by omega⟩, ⟨f1, by rw [pk_un (by decide), pk_un (by omega), pk_un (by omega)]; exact f2, f3⟩, ⟨g1, by rw [pk_un (by decide), pk_un (by omega), pk_un (by omega)]; exact g2, g3⟩, ⟨by rw [pk_un (by decide), pk_un (by omega), pk_un (by omega)]; exact h1, h2⟩, ⟨fun i j => if (i = a ∧ j = b) ∨ (i = b ∧ j = a) then z else w i j, fun i j hi hj => ?_, fun i j hi hj => ?_⟩, fun i hi => ?_, fun j hj => ?_, fun j hj f q1 q2 => ?_⟩
    · obtain ⟨v1, v2, v3, v4⟩ := w1 i j hi hj
      dsimp only
      by_cases q : (i = a ∧ j = b) ∨ (i = b ∧ j = a)
      · rw [if_pos q, if_pos (show (j = a ∧ i = b) ∨ (j = b ∧ i = a) by omega)]
        exact ⟨Or.inr hmin, rfl, fun e => by omega, fun _ => hmin1⟩
      · rw [if_neg q, if_neg (show ¬ ((j = a ∧ i = b) ∨ (j = b ∧ i = a)) by omega)]
        exact ⟨v1, v2, v3, v4⟩
    · obtain ⟨v1, v2⟩ := w2 i j hi hj
      dsimp only
      rw [pk_un (show 5 + 8 * i + j ≠ 1 by omega)]
      by_cases q : i = b ∧ j = a
      · obtain ⟨rfl, rfl⟩ := q
        rw [if_pos (Or.inr ⟨rfl, rfl⟩), pk_us, pk_us, cap_low (by omega)]
        exact ⟨rfl, rfl⟩
      · rw [pk_un (show 8 * i + j ≠ 8 * b + a by omega), pk_un (show 5 + 8 * i + j ≠ 5 + 8 * b + a by omega)]
        by_cases q2 : i = a ∧ j = b
        · obtain ⟨rfl, rfl⟩ := q2
          rw [if_pos (Or.inl ⟨rfl, rfl⟩), pk_us, pk_us, cap_low (by omega)]
          exact ⟨rfl, rfl⟩
        · rw [pk_un (show 8 * i + j ≠ 8 * a + b by omega), pk_un (show 5 + 8 * i + j ≠ 5 + 8 * a + b by omega), if_neg (by omega)]
          exact ⟨v1, v2⟩
    · rw [pk_un (by omega), pk_un (by omega), pk_un (by omega)]; exact ht i hi
    · rw [pk_un (by omega), pk_un (by omega), pk_un (by omega), pk_un (by omega), pk_un (by omega), pk_un (by omega), pk_un (by omega), pk_un (by omega), pk_un (by omega)]; exact hc j hj
    · rw [pk_un (by omega), pk_un (by omega), pk_un (by omega)]; exact hz j hj f q1 q2
theorem DRp.holder (D : DRp r h c told leave holders coins ways towns kinds ch g) (hh : h < 6) (hc0 : c = 0) {t : Nat} (ht1 : 1 ≤ t) (ht7 : t ≤ 7) : DRp r (h + 1) c told leave (nI (h + 1)) coins ways (upd towns h (nI t)) kinds ch (upd (upd g (69 + h) (nI t)) 2 (nI (h + 1))) := by
  obtain ⟨⟨d1, d2, d3, d4⟩, ⟨e1, e2⟩, ⟨f1, f2, f3⟩, ⟨g1, g2, g3⟩, ⟨h1, h2⟩, ⟨w, w1, w2⟩, ht, hc, hz⟩ := D
  subst hc0
  refine ⟨⟨d1, by rw [pk_un (by decide), pk_un (by omega)]; exact d2, by rw [pk_un (by decide), pk_un (by omega)]; exact d3, by rw [pk_un (by decide), pk_un (by omega)]; exact d4⟩, ⟨by rw [pk_un (by decide), pk_un (by omega)]; exact e1, e2⟩, ⟨rfl, by rw [pk_us], by omega⟩, ⟨g1, by rw [pk_un (by decide), pk_un (by omega)]; exact g2, g3⟩, ⟨by rw [pk_un (by decide), pk_un (by omega)]; exact h1, h2⟩, ⟨w, w1, fun a b ha hb => ?_⟩, fun i hi => ?_, fun j hj => absurd hj (Nat.not_lt_zero j), fun j hj f q1 q2 => ?_⟩
  · rw [pk_un (by omega), pk_un (by omega)]; exact w2 a b ha hb
  · rw [pk_un (show 69 + i ≠ 2 by omega)]
    by_cases z : i = h
    · rw [z, pk_us, pk_us]
      exact ⟨t, ht1, ht7, rfl, rfl⟩
    · rw [pk_un z, pk_un (by omega)]
      exact ht i (by omega)
  · rw [pk_un (by omega), pk_un (by omega)]; exact hz j hj f q1 q2
theorem DRp.coin (D : DRp r h c told leave holders coins ways towns kinds ch g) (hc12 : c < 12) {kk q a : Nat} (k1 : 1 ≤ kk) (k5 : kk ≤ 5) (hq : q < h) (ha : a ≤ 400) : DRp r h (c + 1) told leave holders (nI (c + 1)) ways towns (upd kinds c (nI kk)) (upd (upd ch (5 * c) (nI q)) (5 * c + 1) (nI a)) (upd (upd (upd (upd g (75 + 6 * c) (nI kk)) (75 + 6 * c + 1) (nI q)) (75 + 6 * c + 2) (nI a)) 3 (nI (c + 1))) := by
  obtain ⟨⟨d1, d2, d3, d4⟩, ⟨e1, e2⟩, ⟨f1, f2, f3⟩, ⟨g1, g2, g3⟩, ⟨h1, h2⟩, ⟨w, w1, w2⟩, ht, hc, hz⟩ := D
  have ne : ∀ i : Nat, i ≠ 3 → ¬ (75 + 6 * c ≤ i ∧ i < 78 + 6 * c) → upd (upd (upd (upd g (75 + 6 * c) (nI kk)) (75 + 6 * c + 1) (nI q)) (75 + 6 * c + 2) (nI a)) 3 (nI (c + 1)) i = g i := fun i i1 i2 => by
    rw [pk_un i1, pk_un (by omega), pk_un (by omega), pk_un (by omega)]
  have nc : ∀ i : Nat, i ≠ 5 * c → i ≠ 5 * c + 1 → upd (upd ch (5 * c) (nI q)) (5 * c + 1) (nI a) i = ch i := fun i i1 i2 => by
    rw [pk_un i2, pk_un i1]
  refine ⟨⟨d1, by rw [ne 0 (by decide) (by omega)]; exact d2, by rw [ne 0 (by decide) (by omega)]; exact d3, by rw [ne 0 (by decide) (by omega)]; exact d4⟩, ⟨by rw [ne 1 (by decide) (by omega)]; exact e1, e2⟩, ⟨f1, by rw [ne 2 (by decide) (by omega)]; exact f2, f3⟩, ⟨rfl, by rw [pk_us], by omega⟩, ⟨by rw [ne 4 (by decide) (by omega)]; exact h1, by rw [nc 60 (by omega) (by omega)]; exact h2⟩, ⟨w, w1, fun x y hx hy => ?_⟩, fun i hi => ?_, fun j hj => ?_, fun j hj f q1 q2 => ?_⟩
  · rw [ne _ (by omega) (by omega)]; exact w2 x y hx hy
  · rw [ne _ (by omega) (by omega)]; exact ht i hi
  · by_cases z : j = c
    · subst z
      refine ⟨kk, q, a, k1, k5, hq, ha, by rw [pk_us], ?_, ?_, ?_, by rw [pk_us], ?_⟩
      · rw [pk_un (by omega), pk_un (by omega), pk_un (by omega), pk_us]
      · rw [pk_un (by omega), pk_us]
      · rw [pk_un (by omega), pk_un (by omega), show 76 + 6 * j = 75 + 6 * j + 1 from by omega, pk_us]
      · rw [pk_un (by omega), show 77 + 6 * j = 75 + 6 * j + 2 from by omega, pk_us]
    · rw [pk_un z, ne _ (by omega) (by omega), nc _ (by omega) (by omega), ne _ (by omega) (by omega), nc _ (by omega) (by omega), ne _ (by omega) (by omega)]
      exact hc j (by omega)
  · rw [nc _ (by omega) (by omega), ne _ (by omega) (by omega)]; exact hz j hj f q1 q2
end DD
def S6 (a b : MS) : Prop := b.1 = a.1 ∧ ∀ i, i ≠ 6 → b.2 i = a.2 i
theorem S6.rf (a : MS) : S6 a a := ⟨rfl, fun _ _ => rfl⟩
theorem S6.tr {a b c : MS} (h : S6 a b) (h' : S6 b c) : S6 a c := ⟨h'.1.trans h.1, fun i hi => (h'.2 i hi).trans (h.2 i hi)⟩
theorem S6.st (σ : MS) (i : Nat) (x : Int32) : S6 σ (setA σ 6 i x) := ⟨rfl, fun _ hi => va_up_ne _ _ hi⟩
theorem JG.s6 {m : Nat} {u : Nat → Nat} {σ0 σT σ σ' : MS} (h : JG m u σ0 σT σ) (hS : S6 σ σ') : JG m u σ0 σT σ' := by
  obtain ⟨⟨h1, h2, h3, h4⟩, ⟨s, e, y, hK⟩, h0, hF⟩ := h
  refine ⟨⟨h1, h2, by rw [hS.1]; exact h3, by rw [hS.2 10 (by decide)]; exact h4⟩, ⟨s, e, y, ?_⟩, by rw [hS.1]; exact h0, hF.tr ⟨fun i _ _ _ _ _ _ => by rw [hS.1], hS.2⟩⟩
  unfold TK at hK ⊢
  rw [hS.1]
  exact hK
theorem clear_loop (n : Nat) : ∀ (d i : Nat) (σ : MS), i + d = 8 → (∀ a b, a < 8 → b < 8 → σ.2 0 (8 * a + b) = if a = b ∧ a < i then 0 else 1000000) → ∃ σG', FL_clear_11 (n + d + 1) σ (nI i) = some σG' ∧ (σG'.1 4 = 0 ∧ σG'.1 5 = 0 ∧ σG'.1 6 = 0 ∧ σG'.1 7 = 0) ∧ (∀ j, j < 61 → σG'.2 3 j = 0) ∧ (∀ a b, a < 8 → b < 8 → σG'.2 0 (8 * a + b) = if a = b then 0 else 1000000) := by
  intro d
  induction d with
  | zero =>
    intro i σ hi hw
    have hi : i = 8 := hi
    subst hi
    refine ⟨setF (setF (setF (setF (setR σ 3 (kfill 61 0 (σ.2 3))) 4 0) 5 0) 6 0) 7 0, ?_, ⟨rfl, rfl, rfl, rfl⟩, fun j hj => ?_, fun a b ha hb => ?_⟩
    · rw [FL_clear_11, if_pos (show (8 : Int32) ≤ nI 8 by decide)]
      rfl
    · show (if j < 61 then (0 : Int32) else _) = 0
      rw [if_pos hj]
    · show σ.2 0 (8 * a + b) = _
      rw [hw a b ha hb]
      by_cases z : a = b
      · rw [if_pos ⟨z, ha⟩, if_pos z]
      · rw [if_neg (fun q => z q.1), if_neg z]
  | succ d ih =>
    intro i σ hi hw
    obtain ⟨σG', a1, a2⟩ := ih (i + 1) (setA σ 0 (9 * i) 0) (by omega) (fun a b ha hb => by
      show upd (σ.2 0) (9 * i) 0 (8 * a + b) = _
      by_cases z : 8 * a + b = 9 * i
      · have z1 : a = b ∧ a < i + 1 := by omega
        rw [z, pk_us, if_pos z1]
      · rw [pk_un z, hw a b ha hb]
        by_cases q : a = b ∧ a < i
        · rw [if_pos q, if_pos (by omega)]
        · rw [if_neg q, if_neg (by omega)])
    refine ⟨σG', ?_, a2⟩
    show FL_clear_11 ((n + d + 1) + 1) σ (nI i) = _
    rw [FL_clear_11, if_neg (show ¬ (8 : Int32) ≤ nI i from nI_ge (b := 8) (by omega) (by decide)), show (nI i * 8 + nI i : Int32) = nI (9 * i) from by rw [show (8 : Int32) = nI 8 from rfl, pk_mul, nI_add, show i * 8 + i = 9 * i from by omega], gd_nI (N := 64) (by omega) (by decide), nI_clamp (by omega)]
    simp only [nm]
    rw [nI_1]
    exact a1
theorem p_clear (σG : MS) : ∃ σG', FL_clear σG = some σG' ∧ (σG'.1 4 = 0 ∧ σG'.1 5 = 0 ∧ σG'.1 6 = 0 ∧ σG'.1 7 = 0) ∧ (∀ j, j < 61 → σG'.2 3 j = 0) ∧ (∀ a b, a < 8 → b < 8 → σG'.2 0 (8 * a + b) = if a = b then 0 else 1000000) := by
  unfold FL_clear
  simp only [nm]
  exact clear_loop 4991 8 0 (setR σG 0 (kfill 64 1000000 (σG.2 0))) (by decide) (fun a b ha hb => by
    show (if 8 * a + b < 64 then (1000000 : Int32) else _) = _
    rw [if_pos (by omega), if_neg (fun q => Nat.not_lt_zero _ q.2)])
theorem fill_loop (n : Nat) : ∀ (d i : Nat) (σ : MS), i + d = 147 → (∀ j, j < i → σ.2 6 j = if 5 ≤ j ∧ j < 69 then 10000 else 0) → ∃ σ', FM_realm_11 (n + d + 1) σ (nI i) = FM_realm_50 fuelN σ' 0 ∧ (∀ j, j < 147 → σ'.2 6 j = if 5 ≤ j ∧ j < 69 then 10000 else 0) ∧ S6 σ σ' := by
  intro d
  induction d with
  | zero =>
    intro i σ hi hv
    have hi : i = 147 := hi
    subst hi
    refine ⟨σ, ?_, hv, S6.rf σ⟩
    rw [FM_realm_11, if_pos (show (147 : Int32) ≤ nI 147 by decide)]
  | succ d ih =>
    intro i σ hi hv
    obtain ⟨σ', a1, a2, a3⟩ := ih (i + 1) (setA σ 6 i (if 5 ≤ i ∧ i < 69 then 10000 else 0)) (by omega) (fun j hj => by
      rw [A6g]
      by_cases z : j = i
      · rw [z, pk_us]
      · rw [pk_un z]; exact hv j (by omega))
    refine ⟨σ', ?_, a2, (S6.st σ _ _).tr a3⟩
    show FM_realm_11 ((n + d + 1) + 1) σ (nI i) = _
    have h41 : ∀ x, FM_realm_41 (FM_realm_11 (n + d + 1)) σ (nI i) x (nI i) = FM_realm_11 (n + d + 1) (setA σ 6 i x) (nI (i + 1)) := fun x => by
      unfold FM_realm_41
      rw [gd_nI (N := 147) (by omega) (by decide), nI_clamp (by omega)]
      simp only [nm]
      rw [nI_1]
    rw [FM_realm_11, if_neg (show ¬ (147 : Int32) ≤ nI i from nI_ge (b := 147) (by omega) (by decide))]
    unfold FM_realm_40
    by_cases z1 : i < 5
    · rw [if_pos (show nI i < 5 from nI_lt (b := 5) z1 (by decide)), h41]
      rw [if_neg (by omega)] at a1
      exact a1
    · rw [if_neg (show ¬ nI i < 5 from nI_nlt (b := 5) (by omega) (by omega))]
      by_cases z2 : 69 ≤ i
      · rw [if_pos (show (69 : Int32) ≤ nI i from nI_le (a := 69) z2 (by omega)), h41]
        rw [if_neg (by omega)] at a1
        exact a1
      · rw [if_neg (show ¬ (69 : Int32) ≤ nI i from nI_ge (b := 69) (by omega) (by decide)), h41]
        rw [if_pos (by omega)] at a1
        exact a1
theorem diag_loop (n : Nat) : ∀ (d i : Nat) (σ : MS), i + d = 8 → (∀ j, j < 147 → (5 ≤ j ∧ j < 69) → σ.2 6 j = if (j - 5) % 9 = 0 ∧ j < 5 + 9 * i then 0 else 10000) → (∀ j, j < 147 → ¬ (5 ≤ j ∧ j < 69) → σ.2 6 j = 0) → ∃ σ', FM_realm_50 (n + d + 1) σ (nI i) = (Option.bind (FM_name σ') fun (r11 : Int64) => if (lg_cmp r11 7102839) = 0 then (FM_realm_91 σ' 1) else (FM_realm_91 σ' 0)) ∧ (∀ j, j < 147 → (5 ≤ j ∧ j < 69) → σ'.2 6 j = if (j - 5) % 9 = 0 then 0 else 10000) ∧ (∀ j, j < 147 → ¬ (5 ≤ j ∧ j < 69) → σ'.2 6 j = 0) ∧ S6 σ σ' := by
  intro d
  induction d with
  | zero =>
    intro i σ hi hv hz
    have hi : i = 8 := hi
    subst hi
    refine ⟨σ, ?_, fun j hj q => ?_, hz, S6.rf σ⟩
    · rw [FM_realm_50, if_pos (show (8 : Int32) ≤ nI 8 by decide)]
    · rw [hv j hj q]
      by_cases z : (j - 5) % 9 = 0
      · rw [if_pos ⟨z, by omega⟩, if_pos z]
      · rw [if_neg (fun q => z q.1), if_neg z]
  | succ d ih =>
    intro i σ hi hv hz
    obtain ⟨σ', a1, a2, a3, a4⟩ := ih (i + 1) (setA σ 6 (5 + 9 * i) 0) (by omega) (fun j hj q => by
      rw [A6g]
      by_cases z : j = 5 + 9 * i
      · rw [z, pk_us, if_pos (by omega)]
      · rw [pk_un z, hv j hj q]
        by_cases z2 : (j - 5) % 9 = 0 ∧ j < 5 + 9 * i
        · rw [if_pos z2, if_pos (by omega)]
        · rw [if_neg z2, if_neg (by omega)]) (fun j hj q => by
      rw [A6g, pk_un (by omega)]; exact hz j hj q)
    refine ⟨σ', ?_, a2, a3, (S6.st σ _ _).tr a4⟩
    show FM_realm_50 ((n + d + 1) + 1) σ (nI i) = _
    rw [FM_realm_50, if_neg (show ¬ (8 : Int32) ≤ nI i from nI_ge (b := 8) (by omega) (by decide)), show (5 + 9 * nI i : Int32) = nI (5 + 9 * i) from by rw [show (9 : Int32) = nI 9 from rfl, pk_mul, show (5 : Int32) = nI 5 from rfl, nI_add], gd_nI (N := 147) (by omega) (by decide), nI_clamp (by omega)]
    simp only [nm]
    rw [nI_1]
    exact a1
theorem DR_0 {σG : MS} {g : Nat → Int32} (h1 : σG.1 4 = 0 ∧ σG.1 5 = 0 ∧ σG.1 6 = 0 ∧ σG.1 7 = 0) (h2 : ∀ j, j < 61 → σG.2 3 j = 0) (h3 : ∀ a b, a < 8 → b < 8 → σG.2 0 (8 * a + b) = if a = b then 0 else 1000000) (h4 : ∀ j, j < 147 → (5 ≤ j ∧ j < 69) → g j = if (j - 5) % 9 = 0 then 0 else 10000) (h5 : ∀ j, j < 147 → ¬ (5 ≤ j ∧ j < 69) → g j = 0) : DR 0 0 0 σG g := by
  have g0 := h5 0 (by decide) (by decide)
  refine ⟨⟨h1.1, h1.2.1.trans g0.symm, by rw [g0]; decide, by rw [g0]; decide⟩, ⟨h5 1 (by decide) (by decide), by decide⟩, ⟨h1.2.2.1, h5 2 (by decide) (by decide), by decide⟩, ⟨h1.2.2.2, h5 3 (by decide) (by decide), by decide⟩, ⟨h5 4 (by decide) (by decide), h2 60 (by decide)⟩, ⟨fun a b => if a = b then 0 else 1000000, fun a b ha hb => ?_, fun a b ha hb => ?_⟩, fun i hi => absurd hi (Nat.not_lt_zero i), fun j hj => absurd hj (Nat.not_lt_zero j), fun j hj f q1 q2 => ⟨h2 _ (by omega), h5 _ (by omega) (by omega)⟩⟩
  · dsimp only
    by_cases z : a = b
    · rw [if_pos z, if_pos z.symm]
      exact ⟨Or.inr (by omega), rfl, fun _ => rfl, fun q => absurd z q⟩
    · rw [if_neg z, if_neg (fun q => z q.symm)]
      exact ⟨Or.inl rfl, rfl, fun q => absurd q z, fun _ => by omega⟩
  · rw [h3 a b ha hb, h4 _ (by omega) (by omega)]
    dsimp only
    by_cases z : a = b
    · rw [if_pos z, if_pos z, if_pos (by omega)]
      exact ⟨rfl, rfl⟩
    · rw [if_neg z, if_neg z, if_neg (by omega)]
      exact ⟨rfl, rfl⟩
/-! PURE: realm: law, roads, holders, coins, read by both -/
theorem zc_v : zc 0 = 7102839 ∧ zc 1 = 1919902052 ∧ zc 2 = 114827769177458 ∧ zc 3 = 1668245870 ∧ zc 4 = 1735355492 ∧ zc 5 = 126896628458866 ∧ zc 6 = 109330278933874 ∧ zc 7 = 112628846781796 ∧ zc 8 = 7302244 := by decide +kernel
section RD
variable {m : Nat} {u : Nat → Nat} {σ0 σT σR σG σ : MS}
theorem JG.law (h : JG m u σ0 σT σ) (σR : MS) (D : DR 0 0 0 σG (σ.2 6)) : (∃ σR' σT' σG' σ', FR_readLaw σR σT σG = some (1, σR', σT', σG') ∧ (Option.bind (FM_name σ) fun (r11 : Int64) => if (lg_cmp r11 7102839) = 0 then (FM_realm_91 σ 1) else (FM_realm_91 σ 0)) = FM_realm_112 fuelN σ' ∧ JG m u σ0 σT' σ' ∧ DR 0 0 0 σG' (σ'.2 6)) ∨ (∃ σR' σT' σG' σ', FR_readLaw σR σT σG = some (0, σR', σT', σG') ∧ (Option.bind (FM_name σ) fun (r11 : Int64) => if (lg_cmp r11 7102839) = 0 then (FM_realm_91 σ 1) else (FM_realm_91 σ 0)) = FM_realm_112 fuelN σ' ∧ JB m u σ0 σR' σ') := by
  obtain ⟨v, n1, n2⟩ := h.name
  rw [n1, Option.bind_some]
  unfold FR_readLaw
  rw [n2 0 (by decide), Option.bind_some, zc_v.1]
  by_cases z : v = 7102839
  · rw [if_pos z, if_neg one_ne_zero32, if_pos ((lg_cmp_eq _ _).mpr z)]
    obtain ⟨σT1, σ1, i1, -, i2, i3, i4⟩ := h.next
    unfold FM_realm_91
    rw [i1, Option.bind_some, i2, Option.bind_some]
    rcases i3.num σR 1 400 with ⟨x, σT2, σ2, x1, x2, x3, -, x5, x6, x7, x8⟩ | ⟨x, σR2, σ2, x5, x6, x7, x8⟩
    · have hx : x ≤ 400 := (nI_leI (a := x) (b := 400) (by omega) (by decide)).mp x3
      rw [x5, x6]
      have D2 : DR 0 0 0 (setF σG 5 (nI x)) ((setA σ2 6 0 (nI x)).2 6) := by
        rw [A6g, x8, i4]
        exact D.leave' hx
      have e6 : bd2 (some (nI x, σ2)) (fun (r18 : Int32) (σ19 : MS) => gd (¬ ((0 : Int32) < 0 ∨ 147 ≤ Int32.toNatClampNeg 0)) (nm (setA σ19 6 (Int32.toNatClampNeg 0) r18) fun (σ21 : MS) => Option.bind (FM_mustEnd σ21) fun (σ23 : MS) => FM_realm_112 fuelN σ23)) = Option.bind (FM_mustEnd (setA σ2 6 0 (nI x))) fun (σ23 : MS) => FM_realm_112 fuelN σ23 := by
        rw [bd2_s, gd_t (by decide)]
        rfl
      rw [e6, bd3_s, if_neg one_ne_zero32, nm_s]
      rcases (x7.A6 0 (nI x)).sign (setF σR 1 (nI x)) with ⟨σT3, σ3, y1, y2, y3, y4⟩ | ⟨σR3, σ3, y1, y2, y3, y4⟩
      · refine Or.inl ⟨setF σR 1 (nI x), σT3, setF σG 5 (nI x), σ3, ?_, by rw [y2]; rfl, y3, by rw [y4]; exact D2⟩
        rw [show (setF σR 1 (nI x)).1 1 = nI x from rfl, y1, bd3_s, gd_t (Or.inr rfl)]
      · refine Or.inr ⟨σR3, σT2, setF σG 5 (nI x), σ3, ?_, by rw [y2]; rfl, y3⟩
        rw [show (setF σR 1 (nI x)).1 1 = nI x from rfl, y1, bd3_s, gd_t (Or.inl rfl)]
    · refine Or.inr ⟨σR2, σT1, σG, setA σ2 6 0 x, ?_, ?_, x7.A6 0 x⟩
      · rw [x5]
        rfl
      · rw [x6, bd2_s, gd_t (by decide), nm_s, show Int32.toNatClampNeg 0 = 0 from by decide, (x7.A6 0 x).end_, Option.bind_some]
  · rw [if_neg z, if_pos rfl, if_neg (fun q => z ((lg_cmp_eq _ _).mp q))]
    obtain ⟨σR1, σ1, i1, i2, i3, -⟩ := h.must0 σR
    refine Or.inr ⟨σR1, σT, σG, setA σ1 6 0 0, ?_, ?_, i3.A6 0 0⟩
    · rw [i2, bd2_s, gd_t (Or.inl rfl)]
    · unfold FM_realm_91
      rw [i1, Option.bind_some, i3.num, bd2_s, gd_t (by decide), nm_s, show Int32.toNatClampNeg 0 = 0 from by decide, (i3.A6 0 0).end_, Option.bind_some]
theorem JB.r43 (h : JB m u σ0 σR σ) (l : Int32) : FM_readRoad_43 σ l = some σ := by
  have hn := h.num
  have he := h.end_
  unfold FM_readRoad_43
  rw [hn, bd2_s, hn, bd2_s, he, Option.bind_some]
  obtain ⟨f, h1, h3, e, -⟩ := h
  rw [e, if_neg (bf_pos h1 h3).1]
theorem p_addRoad (σG : MS) {a b : Nat} (ha : a < 8) (hb : b < 8) (d : Int32) {z : Int32} (hz : (if d < σG.2 0 (8 * a + b) then d else σG.2 0 (8 * a + b)) = z) : FL_addRoad σG (nI a) (nI b) d = some (setA (setA σG 0 (8 * a + b) z) 0 (8 * b + a) z) := by
  unfold FL_addRoad
  have e1 : (nI a * 8 + nI b : Int32) = nI (8 * a + b) := by
    rw [show (8 : Int32) = nI 8 from rfl, pk_mul, nI_add, Nat.mul_comm]
  have e2 : (nI b * 8 + nI a : Int32) = nI (8 * b + a) := by
    rw [show (8 : Int32) = nI 8 from rfl, pk_mul, nI_add, Nat.mul_comm]
  rw [e1, e2, gd_nI (N := 64) (by omega) (by decide), nm_s, gd_nI (N := 64) (by omega) (by decide), nm_s, gd_nI (N := 64) (by omega) (by decide), nm_s, nI_clamp (n := 8 * a + b) (by omega), nI_clamp (n := 8 * b + a) (by omega), hz]
theorem p_104 (σ : MS) {a b r : Nat} (ha : a < 8) (hb : b < 8) (hr : σ.2 6 1 = nI r) (z : Int32) : FM_readRoad_104 σ (nI a) (nI b) z = some (setA (setA (setA σ 6 (5 + 8 * a + b) z) 6 (5 + 8 * b + a) z) 6 1 (nI (r + 1))) := by
  unfold FM_readRoad_104
  have e1 : (5 + 8 * nI a + nI b : Int32) = nI (5 + 8 * a + b) := by
    rw [show (8 : Int32) = nI 8 from rfl, pk_mul, show (5 : Int32) = nI 5 from rfl, nI_add, nI_add]
  have e2 : (5 + 8 * nI b + nI a : Int32) = nI (5 + 8 * b + a) := by
    rw [show (8 : Int32) = nI 8 from rfl, pk_mul, show (5 : Int32) = nI 5 from rfl, nI_add, nI_add]
  rw [e1, e2, gd_nI (N := 147) (by omega) (by decide), nm_s, gd_nI (N := 147) (by omega) (by decide), nm_s, gd_t (by decide), gd_t (by decide), nm_s, nI_clamp (n := 5 + 8 * a + b) (by omega), nI_clamp (n := 5 + 8 * b + a) (by omega), show Int32.toNatClampNeg 1 = 1 from by decide, A6g, pk_un (by omega), A6g, pk_un (by omega), hr, nI_1]
theorem JG.r45 (h : JG m u σ0 σT σ) (σR : MS) {r c h' : Nat} (D : DR r h' c σG (σ.2 6)) (hr : r < 14) {a : Nat} (ha : a < 8) (hne : σT.1 2 = 2 → ¬ σT.1 4 = nI a) : (∃ σR' σT' σG' σ', FR_readRoad_45 σR σT σG (nI a) = some (1, σR', σT', σG') ∧ FM_readRoad_43 σ (nI a) = some σ' ∧ JG m u σ0 σT' σ' ∧ DR (r + 1) h' c σG' (σ'.2 6)) ∨ (∃ σR' σT' σG' σ', FR_readRoad_45 σR σT σG (nI a) = some (0, σR', σT', σG') ∧ FM_readRoad_43 σ (nI a) = some σ' ∧ JB m u σ0 σR' σ') := by
  unfold FR_readRoad_45 FM_readRoad_43
  rcases h.num σR 0 7 with ⟨b, σT2, σ2, x1, x2, x3, x4, x5, x6, x7, x8⟩ | ⟨x, σR2, σ2, x5, x6, x7, x8⟩
  · have hb : b ≤ 7 := (nI_leI (a := b) (b := 7) (by omega) (by decide)).mp x3
    have hab : a ≠ b := fun q => hne x4.1 (by rw [x4.2, q])
    rw [x5, x6, bd3_s, bd2_s, if_neg one_ne_zero32, nm_s, show (setF σR 1 (nI b)).1 1 = nI b from rfl]
    rcases x7.num (setF σR 1 (nI b)) 1 90 with ⟨d, σT3, σ3, y1, y2, y3, -, y5, y6, y7, y8⟩ | ⟨x, σR3, σ3, y5, y6, y7, y8⟩
    · have hd1 : 1 ≤ d := (nI_leI (a := 1) (b := d) (by decide) (by omega)).mp y2
      have hd : d ≤ 90 := (nI_leI (a := d) (b := 90) (by omega) (by decide)).mp y3
      rw [y5, y6, bd3_s, bd2_s, if_neg one_ne_zero32, show (setF (setF σR 1 (nI b)) 1 (nI d)).1 1 = nI d from rfl]
      obtain ⟨z, z1, z2, z3⟩ := D.road hr ha (by omega : b < 8) hab hd1 hd
      rw [p_addRoad σG ha (by omega) (nI d) z1, Option.bind_some]
      rcases y7.sign (setF (setF σR 1 (nI b)) 1 (nI d)) with ⟨σT4, σ4, s1, s2, s3, s4⟩ | ⟨σR4, σ4, s1, s2, s3, s4⟩
      · have e4 : σ4.2 = σ.2 := s4.trans (y8.trans x8)
        have e1 : (5 + 8 * nI a + nI b : Int32) = nI (5 + 8 * a + b) := by
          rw [show (8 : Int32) = nI 8 from rfl, pk_mul, show (5 : Int32) = nI 5 from rfl, nI_add, nI_add]
        have hg1 : σ4.2 6 1 = nI r := by rw [e4]; exact D.2.1.1
        refine Or.inl ⟨setF (setF σR 1 (nI b)) 1 (nI d), σT4, setA (setA σG 0 (8 * a + b) (nI z)) 0 (8 * b + a) (nI z), setA (setA (setA σ4 6 (5 + 8 * a + b) (nI z)) 6 (5 + 8 * b + a) (nI z)) 6 1 (nI (r + 1)), ?_, ?_, ((s3.A6 _ _).A6 _ _).A6 _ _, ?_⟩
        · rw [s1]
          rw [bd3_s, gd_t (Or.inr rfl)]
        · rw [s2, Option.bind_some, s3.2.2.1, if_pos rfl, e1, gd_nI (N := 147) (by omega) (by decide), gd_nI (N := 147) (by omega) (by decide), nI_clamp (by omega), p_104 σ4 ha (by omega) hg1, p_104 σ4 ha (by omega) hg1, e4, ← z2]
          by_cases q : nI d ≤ σ.2 6 (5 + 8 * a + b)
          · rw [if_pos q, if_pos q]
          · rw [if_neg q, if_neg q]
        · rw [A6g, A6g, A6g, e4]
          exact z3
      · refine Or.inr ⟨σR4, σT3, setA (setA σG 0 (8 * a + b) (nI z)) 0 (8 * b + a) (nI z), σ4, ?_, ?_, s3⟩
        · rw [s1, bd3_s, gd_t (Or.inl rfl)]
        · rw [s2, Option.bind_some]
          obtain ⟨f, h1, h3, e, -⟩ := s3
          rw [e, if_neg (bf_pos h1 h3).1]
    · refine Or.inr ⟨σR3, σT2, σG, σ3, ?_, ?_, y7⟩
      · rw [y5]
        rfl
      · rw [y6]
        show Option.bind (FM_mustEnd σ3) _ = _
        rw [y7.end_, Option.bind_some]
        obtain ⟨f, h1, h3, e, -⟩ := y7
        rw [e, if_neg (bf_pos h1 h3).1]
  · refine Or.inr ⟨σR2, σT, σG, σ2, ?_, ?_, x7⟩
    · rw [x5]
      rfl
    · rw [x6, bd2_s, x7.num, bd2_s, x7.end_, Option.bind_some]
      obtain ⟨f, h1, h3, e, -⟩ := x7
      rw [e, if_neg (bf_pos h1 h3).1]
theorem JG.road (h : JG m u σ0 σT σ) (σR : MS) {r c h' : Nat} (D : DR r h' c σG (σ.2 6)) (hr : r < 14) : (∃ σT1 σR' σT' σG' σ', FT_step σT = some σT1 ∧ FR_readRoad σR σT1 σG = some (1, σR', σT', σG') ∧ FM_readRoad σ = some σ' ∧ JG m u σ0 σT' σ' ∧ DR (r + 1) h' c σG' (σ'.2 6)) ∨ (∃ σT1 σR' σT' σG' σ', FT_step σT = some σT1 ∧ FR_readRoad σR σT1 σG = some (0, σR', σT', σG') ∧ FM_readRoad σ = some σ' ∧ JB m u σ0 σR' σ') := by
  have hg1 : ¬ σ.2 6 1 = 14 := by
    rw [D.2.1.1]
    intro q
    have := (nI_eq (a := r) (b := 14) (by omega) (by decide)).mp q
    omega
  obtain ⟨σT1, σ1, i1, i2, i3, i4⟩ := h.begins (a := 1) (by decide) hg1
  have D1 : DR r h' c σG (σ1.2 6) := by rw [i4]; exact D
  unfold FR_readRoad FM_readRoad
  rw [show FM_begins σ 1 14 = _ from i2, Option.bind_some]
  rcases i3.num σR 0 7 with ⟨a, σT2, σ2, x1, x2, x3, x4, x5, x6, x7, x8⟩ | ⟨x, σR2, σ2, x5, x6, x7, x8⟩
  · have ha : a ≤ 7 := (nI_leI (a := a) (b := 7) (by omega) (by decide)).mp x3
    have D2 : DR r h' c σG (σ2.2 6) := by rw [x8]; exact D1
    obtain ⟨s1, -, -, s4⟩ := x7.sort
    have cl : FR_takeNumber σR σT1 0 7 = some (1, setF σR 1 (nI a), σT2) := x5
    have eL : ∀ X, (if (σT2.1 2) = 2 then (if (σT2.1 4) = nI a then (bd2 (FR_faulty (setF σR 1 (nI a)) σT2 2) fun (r8 : Int32) (σ9 : MS) => gd (r8 = 0 ∨ r8 = 1) (some (r8, σ9, σT2, σG))) else (FR_readRoad_45 (setF σR 1 (nI a)) σT2 σG (nI a))) else (FR_readRoad_45 (setF σR 1 (nI a)) σT2 σG (nI a))) = X → (bd3 (FR_takeNumber σR σT1 0 7) fun (r1 : Int32) (σ2 : MS) (σ3 : MS) => if r1 = 0 then (some (0, σ2, σ3, σG)) else (nm (σ2.1 1) fun (x5 : Int32) => if (σ3.1 2) = 2 then (if (σ3.1 4) = x5 then (bd2 (FR_faulty σ2 σ3 2) fun (r8 : Int32) (σ9 : MS) => gd (r8 = 0 ∨ r8 = 1) (some (r8, σ9, σ3, σG))) else (FR_readRoad_45 σ2 σ3 σG x5)) else (FR_readRoad_45 σ2 σ3 σG x5))) = X := by
      intro X hX
      rw [cl]
      exact hX
    have eM : ∀ X, (if (σ2.1 15) = 3 then (Option.bind (FM_figures σ2) fun (r7 : Int32) => if r7 = nI a then (Option.bind (FM_bad σ2 2) fun (σ10 : MS) => FM_readRoad_43 σ10 (nI a)) else (FM_readRoad_43 σ2 (nI a))) else (FM_readRoad_43 σ2 (nI a))) = X → (bd2 (FM_number σ1 0 7) fun (r3 : Int32) (σ4 : MS) => if (σ4.1 18) = 0 then (if (σ4.1 15) = 3 then (Option.bind (FM_figures σ4) fun (r7 : Int32) => if r7 = r3 then (Option.bind (FM_bad σ4 2) fun (σ10 : MS) => FM_readRoad_43 σ10 r3) else (FM_readRoad_43 σ4 r3)) else (FM_readRoad_43 σ4 r3)) else (FM_readRoad_43 σ4 r3)) = X := by
      intro X hX
      rw [x6]
      show (if (σ2.1 18) = 0 then _ else _) = X
      rw [x7.2.2.1, if_pos rfl]
      exact hX
    by_cases z : σT2.1 2 = 2
    · obtain ⟨v, hv, ev, ef⟩ := s4 z
      by_cases q : σT2.1 4 = nI a
      · obtain ⟨σR3, σ3, j1, j2, j3, -, -⟩ := x7.fail (setF σR 1 (nI a)) (f := 2) (by decide) (by decide)
        refine Or.inr ⟨σT1, σR3, σT2, σG, σ3, i1, eL _ ?_, eM _ ?_, j3⟩
        · rw [if_pos z, if_pos q, show FR_faulty (setF σR 1 (nI a)) σT2 2 = _ from j2, bd2_s, gd_t (Or.inl rfl)]
        · rw [if_pos (s1.mp z), ef, Option.bind_some, if_pos (ev.symm.trans q), show FM_bad σ2 2 = _ from j1, Option.bind_some, j3.r43]
      · rcases x7.r45 (setF σR 1 (nI a)) D2 hr (a := a) (by omega) (fun _ => q) with ⟨σR3, σT3, σG3, σ3, j1, j2, j3, j4⟩ | ⟨σR3, σT3, σG3, σ3, j1, j2, j3⟩
        · refine Or.inl ⟨σT1, σR3, σT3, σG3, σ3, i1, eL _ ?_, eM _ ?_, j3, j4⟩
          · rw [if_pos z, if_neg q, j1]
          · rw [if_pos (s1.mp z), ef, Option.bind_some, if_neg (fun y => q (ev.trans y)), j2]
        · refine Or.inr ⟨σT1, σR3, σT3, σG3, σ3, i1, eL _ ?_, eM _ ?_, j3⟩
          · rw [if_pos z, if_neg q, j1]
          · rw [if_pos (s1.mp z), ef, Option.bind_some, if_neg (fun y => q (ev.trans y)), j2]
    · have z' : ¬ σ2.1 15 = 3 := fun q => z (s1.mpr q)
      rcases x7.r45 (setF σR 1 (nI a)) D2 hr (a := a) (by omega) (fun q => absurd q z) with ⟨σR3, σT3, σG3, σ3, j1, j2, j3, j4⟩ | ⟨σR3, σT3, σG3, σ3, j1, j2, j3⟩
      · refine Or.inl ⟨σT1, σR3, σT3, σG3, σ3, i1, eL _ ?_, eM _ ?_, j3, j4⟩
        · rw [if_neg z, j1]
        · rw [if_neg z', j2]
      · refine Or.inr ⟨σT1, σR3, σT3, σG3, σ3, i1, eL _ ?_, eM _ ?_, j3⟩
        · rw [if_neg z, j1]
        · rw [if_neg z', j2]
  · refine Or.inr ⟨σT1, σR2, σT1, σG, σ2, i1, ?_, ?_, x7⟩
    · rw [x5]
      rfl
    · rw [x6]
      show (if (σ2.1 18) = 0 then _ else _) = _
      have h43 := x7.r43
      obtain ⟨f, h1, h3, e, -⟩ := x7
      rw [e, if_neg (bf_pos h1 h3).1, h43]
theorem roads_loop (n nB : Nat) {c h' : Nat} : ∀ (d r : Nat) (σR σT σG σ : MS), r + d = 14 → JG m u σ0 σT σ → DR r h' c σG (σ.2 6) → (∃ r' σR' σT' σG' σ', FR_readRoads_2 (n + d + 1) σR σT σG (nI r) = some (1, σR', σT', σG') ∧ FM_realm_112 (nB + d + 2) σ = FM_realm_130 fuelN σ' ∧ JG m u σ0 σT' σ' ∧ DR r' h' c σG' (σ'.2 6)) ∨ (∃ σR' σT' σG' σ', FR_readRoads_2 (n + d + 1) σR σT σG (nI r) = some (0, σR', σT', σG') ∧ FM_realm_112 (nB + d + 2) σ = some (-1000100 - σR'.1 3, setF σ' 12 (σR'.1 2)) ∧ JB m u σ0 σR' σ') := by
  intro d
  induction d with
  | zero =>
    intro r σR σT σG σ hr h D
    have hr : r = 14 := hr
    subst hr
    obtain ⟨v, n1, n2⟩ := h.name
    show (∃ r' σR' σT' σG' σ', FR_readRoads_2 (n + 1) σR σT σG (nI 14) = _ ∧ FM_realm_112 (nB + 1 + 1) σ = _ ∧ _) ∨ (∃ σR' σT' σG' σ', FR_readRoads_2 (n + 1) σR σT σG (nI 14) = _ ∧ FM_realm_112 (nB + 1 + 1) σ = _ ∧ _)
    rw [FR_readRoads_2, FM_realm_112, n1, Option.bind_some, n2 1 (by decide), Option.bind_some, if_neg (show ¬ (14 : Int32) < nI 14 by decide), zc_v.2.1]
    by_cases z : v = 1919902052
    · obtain ⟨σR', σ', i1, i2, i3, i4⟩ := h.beginsF σR (a := 1) (by decide) (b := 14) D.2.1.1
      refine Or.inr ⟨σR', σT, σG, σ', ?_, ?_, i3⟩
      · rw [if_pos z, if_neg one_ne_zero32, if_pos (show nI 14 = 14 from rfl), i1, bd2_s, gd_t (Or.inl rfl)]
      · rw [if_pos ((lg_cmp_eq _ _).mpr z), FM_readRoad, show FM_begins σ 1 14 = _ from i2, Option.bind_some, i3.num]
        show Option.bind (if (σ'.1 18) = 0 then _ else _) _ = _
        have h43 := i3.r43
        have h112 := i3.e112 nB
        obtain ⟨f, h1, h3, e, -⟩ := i3
        rw [e, if_neg (bf_pos h1 h3).1, h43, Option.bind_some, h112]
    · refine Or.inl ⟨14, σR, σT, σG, σ, ?_, ?_, h, D⟩
      · rw [if_neg z, if_pos rfl]
      · rw [if_neg (fun q => z ((lg_cmp_eq _ _).mp q))]
  | succ d ih =>
    intro r σR σT σG σ hr h D
    obtain ⟨v, n1, n2⟩ := h.name
    show (∃ r' σR' σT' σG' σ', FR_readRoads_2 ((n + d + 1) + 1) σR σT σG (nI r) = _ ∧ FM_realm_112 ((nB + d + 2) + 1) σ = _ ∧ _) ∨ (∃ σR' σT' σG' σ', FR_readRoads_2 ((n + d + 1) + 1) σR σT σG (nI r) = _ ∧ FM_realm_112 ((nB + d + 2) + 1) σ = _ ∧ _)
    rw [FR_readRoads_2, FM_realm_112, n1, Option.bind_some, n2 1 (by decide), Option.bind_some, if_neg (show ¬ (14 : Int32) < nI r from nI_nlt (a := 14) (by omega) (by decide)), zc_v.2.1]
    by_cases z : v = 1919902052
    · rw [if_pos z, if_neg one_ne_zero32, if_neg (show ¬ nI r = 14 from fun q => by have := (nI_eq (a := r) (b := 14) (by omega) (by decide)).mp q; omega), if_pos ((lg_cmp_eq _ _).mpr z)]
      rcases h.road σR D (by omega) with ⟨σT1, σR2, σT2, σG2, σ2, j0, j1, j2, j3, j4⟩ | ⟨σT1, σR2, σT2, σG2, σ2, j0, j1, j2, j3⟩
      · rw [j0, Option.bind_some, j1, j2, Option.bind_some]
        rw [bd4_s, if_neg one_ne_zero32, nm_s, nI_1]
        exact ih (r + 1) σR2 σT2 σG2 σ2 (by omega) j3 j4
      · refine Or.inr ⟨σR2, σT2, σG2, σ2, ?_, ?_, j3⟩
        · rw [j0, Option.bind_some, j1]
          rfl
        · rw [j2, Option.bind_some]
          exact j3.e112 (nB + d + 1)
    · refine Or.inl ⟨r, σR, σT, σG, σ, ?_, ?_, h, D⟩
      · rw [if_neg z, if_pos rfl]
      · rw [if_neg (fun q => z ((lg_cmp_eq _ _).mp q))]
theorem p_addHolder (σG : MS) {h' : Nat} (hh : h' < 6) (e : σG.1 6 = nI h') (t : Int32) : FL_addHolder σG t = some (setF (setA σG 1 h' t) 6 (nI (h' + 1))) := by
  unfold FL_addHolder
  rw [e, if_neg (show ¬ (6 : Int32) ≤ nI h' from nI_ge (b := 6) hh (by decide)), gd_nI (N := 6) hh (by decide), nI_clamp (by omega), nm_s, nm_s, show (setA σG 1 h' t).1 6 = nI h' from e, nI_1]
theorem JB.hold (h : JB m u σ0 σR σ) : (bd2 (FM_number σ 1 7) fun (r3 : Int32) (σ4 : MS) => Option.bind (FM_mustEnd σ4) fun (σ6 : MS) => if (σ6.1 18) = 0 then (gd (¬ ((2 : Int32) < 0 ∨ 147 ≤ Int32.toNatClampNeg 2)) (gd (¬ (((69 + (σ6.2 6 (Int32.toNatClampNeg 2))) : Int32) < 0 ∨ 147 ≤ Int32.toNatClampNeg (69 + (σ6.2 6 (Int32.toNatClampNeg 2))))) (nm (setA σ6 6 (Int32.toNatClampNeg (69 + (σ6.2 6 (Int32.toNatClampNeg 2)))) r3) fun (σ10 : MS) => gd (¬ ((2 : Int32) < 0 ∨ 147 ≤ Int32.toNatClampNeg 2)) (gd (¬ ((2 : Int32) < 0 ∨ 147 ≤ Int32.toNatClampNeg 2)) (nm (setA σ10 6 (Int32.toNatClampNeg 2) ((σ10.2 6 (Int32.toNatClampNeg 2)) + 1)) fun (σ13 : MS) => some σ13))))) else (some σ6)) = some σ := by
  rw [h.num]
  show Option.bind (FM_mustEnd σ) _ = _
  rw [h.end_, Option.bind_some]
  obtain ⟨f, h1, h3, e, -⟩ := h
  rw [e, if_neg (bf_pos h1 h3).1]
theorem JG.holder (h : JG m u σ0 σT σ) (σR : MS) {r h' : Nat} (D : DR r h' 0 σG (σ.2 6)) (hh : h' < 6) : ∃ σT1, FT_step σT = some σT1 ∧ ((∃ v σR1 σT2 σT' σG' σ', FR_takeNumber σR σT1 1 7 = some (1, σR1, σT2) ∧ σR1.1 1 = nI v ∧ FL_addHolder σG (nI v) = some σG' ∧ FR_takeSign σR1 σT2 = some (1, σR1, σT') ∧ FM_readHolder σ = some σ' ∧ JG m u σ0 σT' σ' ∧ DR r (h' + 1) 0 σG' (σ'.2 6)) ∨ (∃ σR' σ', FR_takeNumber σR σT1 1 7 = some (0, σR', σT1) ∧ FM_readHolder σ = some σ' ∧ JB m u σ0 σR' σ') ∨ (∃ v σR1 σT2 σR' σG' σ', FR_takeNumber σR σT1 1 7 = some (1, σR1, σT2) ∧ σR1.1 1 = nI v ∧ FL_addHolder σG (nI v) = some σG' ∧ FR_takeSign σR1 σT2 = some (0, σR', σT2) ∧ FM_readHolder σ = some σ' ∧ JB m u σ0 σR' σ')) := by
  have hg : ¬ σ.2 6 2 = 6 := by
    rw [D.2.2.1.2.1]
    intro q
    have := (nI_eq (a := h') (b := 6) (by omega) (by decide)).mp q
    omega
  obtain ⟨σT1, σ1, i1, i2, i3, i4⟩ := h.begins (a := 2) (by decide) hg
  refine ⟨σT1, i1, ?_⟩
  unfold FM_readHolder
  rw [show FM_begins σ 2 6 = _ from i2, Option.bind_some]
  rcases i3.num σR 1 7 with ⟨t, σT2, σ2, x1, x2, x3, -, x5, x6, x7, x8⟩ | ⟨x, σR2, σ2, x5, x6, x7, x8⟩
  · have ht1 : 1 ≤ t := (nI_leI (a := 1) (b := t) (by decide) (by omega)).mp x2
    have ht : t ≤ 7 := (nI_leI (a := t) (b := 7) (by omega) (by decide)).mp x3
    have hA := p_addHolder σG hh D.2.2.1.1 (nI t)
    rcases x7.sign (setF σR 1 (nI t)) with ⟨σT3, σ3, s1, s2, s3, s4⟩ | ⟨σR3, σ3, s1, s2, s3, s4⟩
    · have e4 : σ3.2 = σ.2 := s4.trans (x8.trans i4)
      have hg2 : σ3.2 6 2 = nI h' := by rw [e4]; exact D.2.2.1.2.1
      refine Or.inl ⟨t, _, σT2, σT3, _, setA (setA σ3 6 (69 + h') (nI t)) 6 2 (nI (h' + 1)), x5, rfl, hA, s1, ?_, (s3.A6 _ _).A6 _ _, ?_⟩
      · rw [x6]
        show Option.bind (FM_mustEnd σ2) _ = _
        rw [s2, Option.bind_some, s3.2.2.1, if_pos rfl, gd_t (by decide), show Int32.toNatClampNeg 2 = 2 from by decide, hg2, show (69 + nI h' : Int32) = nI (69 + h') from nI_add 69 h', gd_nI (N := 147) (by omega) (by decide), nI_clamp (by omega), nm_s, gd_t (by decide), gd_t (by decide), nm_s, A6g, pk_un (by omega), hg2, nI_1]
      · rw [A6g, A6g, e4]
        exact D.holder hh rfl ht1 ht
    · refine Or.inr (Or.inr ⟨t, _, σT2, σR3, _, σ3, x5, rfl, hA, s1, ?_, s3⟩)
      rw [x6]
      show Option.bind (FM_mustEnd σ2) _ = _
      rw [s2, Option.bind_some]
      obtain ⟨f, h1, h3, e, -⟩ := s3
      rw [e, if_neg (bf_pos h1 h3).1]
  · refine Or.inr (Or.inl ⟨σR2, σ2, x5, ?_, x7⟩)
    rw [x6]
    show Option.bind (FM_mustEnd σ2) _ = _
    rw [x7.end_, Option.bind_some]
    obtain ⟨f, h1, h3, e, -⟩ := x7
    rw [e, if_neg (bf_pos h1 h3).1]
theorem holders_loop (n nB : Nat) {r : Nat} : ∀ (d h' : Nat) (σR σT σG σ : MS), h' + d = 6 → JG m u σ0 σT σ → DR r h' 0 σG (σ.2 6) → (∃ h2 σR' σT' σG' σ', FR_readHolders_2 (n + d + 1) σR σT σG (nI h') = some (1, σR', σT', σG') ∧ FM_realm_130 (nB + d + 2) σ = FM_realm_148 fuelN σ' ∧ JG m u σ0 σT' σ' ∧ DR r h2 0 σG' (σ'.2 6)) ∨ (∃ σR' σT' σG' σ', FR_readHolders_2 (n + d + 1) σR σT σG (nI h') = some (0, σR', σT', σG') ∧ FM_realm_130 (nB + d + 2) σ = some (-1000100 - σR'.1 3, setF σ' 12 (σR'.1 2)) ∧ JB m u σ0 σR' σ') := by
  intro d
  induction d with
  | zero =>
    intro h' σR σT σG σ hr h D
    have hr : h' = 6 := hr
    subst hr
    obtain ⟨v, n1, n2⟩ := h.name
    show (∃ h2 σR' σT' σG' σ', FR_readHolders_2 (n + 1) σR σT σG (nI 6) = _ ∧ FM_realm_130 (nB + 1 + 1) σ = _ ∧ _) ∨ (∃ σR' σT' σG' σ', FR_readHolders_2 (n + 1) σR σT σG (nI 6) = _ ∧ FM_realm_130 (nB + 1 + 1) σ = _ ∧ _)
    rw [FR_readHolders_2, FM_realm_130, n1, Option.bind_some, n2 2 (by decide), Option.bind_some, if_neg (show ¬ (6 : Int32) < nI 6 by decide), zc_v.2.2.1]
    by_cases z : v = 114827769177458
    · obtain ⟨σR', σ', i1, i2, i3, i4⟩ := h.beginsF σR (a := 2) (by decide) (b := 6) D.2.2.1.2.1
      refine Or.inr ⟨σR', σT, σG, σ', ?_, ?_, i3⟩
      · rw [if_pos z, if_neg one_ne_zero32, if_pos (show nI 6 = 6 from rfl), i1, bd2_s, gd_t (Or.inl rfl)]
      · rw [if_pos ((lg_cmp_eq _ _).mpr z), FM_readHolder, show FM_begins σ 2 6 = _ from i2, Option.bind_some, i3.hold, Option.bind_some]
        exact i3.e130 nB
    · refine Or.inl ⟨6, σR, σT, σG, σ, ?_, ?_, h, D⟩
      · rw [if_neg z, if_pos rfl]
      · rw [if_neg (fun q => z ((lg_cmp_eq _ _).mp q))]
  | succ d ih =>
    intro h' σR σT σG σ hr h D
    obtain ⟨v, n1, n2⟩ := h.name
    show (∃ h2 σR' σT' σG' σ', FR_readHolders_2 ((n + d + 1) + 1) σR σT σG (nI h') = _ ∧ FM_realm_130 ((nB + d + 2) + 1) σ = _ ∧ _) ∨ (∃ σR' σT' σG' σ', FR_readHolders_2 ((n + d + 1) + 1) σR σT σG (nI h') = _ ∧ FM_realm_130 ((nB + d + 2) + 1) σ = _ ∧ _)
    rw [FR_readHolders_2, FM_realm_130, n1, Option.bind_some, n2 2 (by decide), Option.bind_some, if_neg (show ¬ (6 : Int32) < nI h' from nI_nlt (a := 6) (by omega) (by decide)), zc_v.2.2.1]
    by_cases z : v = 114827769177458
    · rw [if_pos z, if_neg one_ne_zero32, if_neg (show ¬ nI h' = 6 from fun q => by have := (nI_eq (a := h') (b := 6) (by omega) (by decide)).mp q; omega), if_pos ((lg_cmp_eq _ _).mpr z)]
      obtain ⟨σT1, j0, hh⟩ := h.holder σR D (by omega)
      rw [j0, Option.bind_some]
      rcases hh with ⟨v, σR1, σT2, σT', σG', σ', k1, k2, k3, k4, k5, k6, k7⟩ | ⟨σR', σ', k1, k5, k6⟩ | ⟨v, σR1, σT2, σR', σG', σ', k1, k2, k3, k4, k5, k6⟩
      · rw [k1, k5, Option.bind_some]
        rw [bd3_s, if_neg one_ne_zero32, k2, k3, Option.bind_some, k4, bd3_s, if_neg one_ne_zero32, nm_s, nI_1]
        exact ih (h' + 1) σR1 σT' σG' σ' (by omega) k6 k7
      · refine Or.inr ⟨σR', σT1, σG, σ', ?_, ?_, k6⟩
        · rw [k1]
          rfl
        · rw [k5, Option.bind_some]
          exact k6.e130 (nB + d + 1)
      · refine Or.inr ⟨σR', σT2, σG', σ', ?_, ?_, k6⟩
        · rw [k1, bd3_s, if_neg one_ne_zero32, k2, k3, Option.bind_some, k4]
          rfl
        · rw [k5, Option.bind_some]
          exact k6.e130 (nB + d + 1)
    · refine Or.inl ⟨h', σR, σT, σG, σ, ?_, ?_, h, D⟩
      · rw [if_neg z, if_pos rfl]
      · rw [if_neg (fun q => z ((lg_cmp_eq _ _).mp q))]
end RD
/-! PURE: realm: coins, read by both -/
section RC
variable {m : Nat} {u : Nat → Nat} {σ0 σT σR σG σ : MS}
theorem JG.kindW (h : JG m u σ0 σT σ) (σR : MS) : ∃ v : Int64, FM_name σ = some v ∧ ((∃ kk : Nat, 1 ≤ kk ∧ kk ≤ 5 ∧ FR_kindOfWord σR σT = some (nI kk) ∧ FM_kindBy v = some (nI kk)) ∨ (FR_kindOfWord σR σT = some 0 ∧ FM_kindBy v = some (-1000000))) := by
  obtain ⟨v, n1, n2⟩ := h.name
  refine ⟨v, n1, ?_⟩
  unfold FR_kindOfWord FM_kindBy
  rw [n2 4 (by decide), n2 5 (by decide), n2 6 (by decide), n2 7 (by decide), n2 8 (by decide), zc_v.2.2.2.2.1, zc_v.2.2.2.2.2.1, zc_v.2.2.2.2.2.2.1, zc_v.2.2.2.2.2.2.2.1, zc_v.2.2.2.2.2.2.2.2]
  simp only [Option.bind_some, lg_cmp_eq]
  by_cases z4 : v = 1735355492
  · exact Or.inl ⟨2, by decide, by decide, by rw [if_pos z4, if_neg one_ne_zero32]; rfl, by rw [if_pos z4]; rfl⟩
  rw [if_neg z4, if_neg z4, if_pos rfl]
  by_cases z5 : v = 126896628458866
  · exact Or.inl ⟨1, by decide, by decide, by rw [if_pos z5, if_neg one_ne_zero32]; rfl, by rw [if_pos z5]; rfl⟩
  rw [if_neg z5, if_neg z5, if_pos rfl]
  by_cases z6 : v = 109330278933874
  · exact Or.inl ⟨3, by decide, by decide, by rw [if_pos z6, if_neg one_ne_zero32]; rfl, by rw [if_pos z6]; rfl⟩
  rw [if_neg z6, if_neg z6, if_pos rfl]
  by_cases z7 : v = 112628846781796
  · exact Or.inl ⟨5, by decide, by decide, by rw [if_pos z7, if_neg one_ne_zero32]; rfl, by rw [if_pos z7]; rfl⟩
  rw [if_neg z7, if_neg z7, if_pos rfl]
  by_cases z8 : v = 7302244
  · exact Or.inl ⟨4, by decide, by decide, by rw [if_pos z8, if_neg one_ne_zero32]; rfl, by rw [if_pos z8]; rfl⟩
  rw [if_neg z8, if_neg z8, if_pos rfl]
  exact Or.inr ⟨rfl, rfl⟩
theorem JB.c37 (h : JB m u σ0 σR σ) (l : Int32) : FM_readCoin_37 σ l = some σ := by
  have hn := h.num
  have he := h.end_
  unfold FM_readCoin_37
  rw [gd_t (by decide), hn, bd2_s, hn, bd2_s, he, Option.bind_some]
  obtain ⟨f, h1, h3, e, -⟩ := h
  rw [e, if_neg (bf_pos h1 h3).1]
theorem p_addCoin (σG : MS) {c : Nat} (hc : c < 12) (e : σG.1 7 = nI c) (kk q a : Int32) : FL_addCoin σG kk q a = some (setF (setA (setA (setA σG 2 c kk) 3 (5 * c) q) 3 (5 * c + 1) a) 7 (nI (c + 1))) := by
  unfold FL_addCoin
  rw [e, if_neg (show ¬ (12 : Int32) ≤ nI c from nI_ge (b := 12) hc (by decide)), gd_nI (N := 12) hc (by decide), nI_clamp (by omega), nm_s, show (setA σG 2 c kk).1 7 = nI c from e, show FL_put (setA σG 2 c kk) (nI c) 0 q = _ from p_lput (setA σG 2 c kk) (c := c) (f := 0) (by omega) q, Option.bind_some, Nat.add_zero, show (setA (setA σG 2 c kk) 3 (5 * c) q).1 7 = nI c from e, show FL_put (setA (setA σG 2 c kk) 3 (5 * c) q) (nI c) 1 a = _ from p_lput (setA (setA σG 2 c kk) 3 (5 * c) q) (c := c) (f := 1) (by omega) a, Option.bind_some, nm_s, show (setA (setA (setA σG 2 c kk) 3 (5 * c) q) 3 (5 * c + 1) a).1 7 = nI c from e, nI_1]
theorem JG.c37 (h : JG m u σ0 σT σ) (σR : MS) {r h' c : Nat} (D : DR r h' c σG (σ.2 6)) (hc : c < 12) {kk : Nat} (k1 : 1 ≤ kk) (k5 : kk ≤ 5) : (∃ σR' σT' σG' σ', (bd3 (FR_takeNumber σR σT 0 ((σG.1 6) - 1)) fun (r5 : Int32) (σ6 : MS) (σ7 : MS) => if r5 = 0 then (some ((0 : Int32), σ6, σ7, σG)) else (nm (σ6.1 1) fun (x9 : Int32) => bd3 (FR_takeNumber σ6 σ7 0 400) fun (r10 : Int32) (σ11 : MS) (σ12 : MS) => if r10 = 0 then (some (0, σ11, σ12, σG)) else (Option.bind (FL_addCoin σG (nI kk) x9 (σ11.1 1)) fun (σ15 : MS) => bd3 (FR_takeSign σ11 σ12) fun (r16 : Int32) (σ17 : MS) (σ18 : MS) => gd (r16 = 0 ∨ r16 = 1) (some (r16, σ17, σ18, σ15))))) = some (1, σR', σT', σG') ∧ FM_readCoin_37 σ (nI kk) = some σ' ∧ JG m u σ0 σT' σ' ∧ DR r h' (c + 1) σG' (σ'.2 6)) ∨ (∃ σR' σT' σG' σ', (bd3 (FR_takeNumber σR σT 0 ((σG.1 6) - 1)) fun (r5 : Int32) (σ6 : MS) (σ7 : MS) => if r5 = 0 then (some ((0 : Int32), σ6, σ7, σG)) else (nm (σ6.1 1) fun (x9 : Int32) => bd3 (FR_takeNumber σ6 σ7 0 400) fun (r10 : Int32) (σ11 : MS) (σ12 : MS) => if r10 = 0 then (some (0, σ11, σ12, σG)) else (Option.bind (FL_addCoin σG (nI kk) x9 (σ11.1 1)) fun (σ15 : MS) => bd3 (FR_takeSign σ11 σ12) fun (r16 : Int32) (σ17 : MS) (σ18 : MS) => gd (r16 = 0 ∨ r16 = 1) (some (r16, σ17, σ18, σ15))))) = some (0, σR', σT', σG') ∧ FM_readCoin_37 σ (nI kk) = some σ' ∧ JB m u σ0 σR' σ') := by
  have hG6 : σG.1 6 = nI h' := D.2.2.1.1
  have hg2 : σ.2 6 2 = nI h' := D.2.2.1.2.1
  have hh6 : h' ≤ 6 := D.2.2.1.2.2
  unfold FM_readCoin_37
  rw [gd_t (by decide), show Int32.toNatClampNeg 2 = 2 from by decide, hg2, hG6]
  rcases h.num σR 0 (nI h' - 1) with ⟨q, σT2, σ2, x1, x2, x3, -, x5, x6, x7, x8⟩ | ⟨x, σR2, σ2, x5, x6, x7, x8⟩
  · have hq : q < h' := by
      obtain ⟨i, hi, e⟩ := (ixm (m := h') (by omega)).mp ⟨x2, x3⟩
      have := (nI_eq (by omega) (by omega)).mp e
      omega
    rw [x5, x6, bd3_s, bd2_s, if_neg one_ne_zero32, nm_s, show (setF σR 1 (nI q)).1 1 = nI q from rfl]
    rcases x7.num (setF σR 1 (nI q)) 0 400 with ⟨a, σT3, σ3, y1, y2, y3, -, y5, y6, y7, y8⟩ | ⟨x, σR3, σ3, y5, y6, y7, y8⟩
    · have ha : a ≤ 400 := (nI_leI (a := a) (b := 400) (by omega) (by decide)).mp y3
      rw [y5, y6, bd3_s, bd2_s, if_neg one_ne_zero32, show (setF (setF σR 1 (nI q)) 1 (nI a)).1 1 = nI a from rfl, p_addCoin σG hc D.2.2.2.1.1, Option.bind_some]
      rcases y7.sign (setF (setF σR 1 (nI q)) 1 (nI a)) with ⟨σT4, σ4, s1, s2, s3, s4⟩ | ⟨σR4, σ4, s1, s2, s3, s4⟩
      · have e4 : σ4.2 = σ.2 := s4.trans (y8.trans x8)
        have hg3 : σ4.2 6 3 = nI c := by rw [e4]; exact D.2.2.2.1.2.1
        refine Or.inl ⟨setF (setF σR 1 (nI q)) 1 (nI a), σT4, setF (setA (setA (setA σG 2 c (nI kk)) 3 (5 * c) (nI q)) 3 (5 * c + 1) (nI a)) 7 (nI (c + 1)), setA (setA (setA (setA σ4 6 (75 + 6 * c) (nI kk)) 6 (75 + 6 * c + 1) (nI q)) 6 (75 + 6 * c + 2) (nI a)) 6 3 (nI (c + 1)), ?_, ?_, (((s3.A6 _ _).A6 _ _).A6 _ _).A6 _ _, ?_⟩
        · rw [s1, bd3_s, gd_t (Or.inr rfl)]
        · rw [s2, Option.bind_some, s3.2.2.1, if_pos rfl, gd_t (by decide), show Int32.toNatClampNeg 3 = 3 from by decide, hg3, nm_s, show (75 + 6 * nI c : Int32) = nI (75 + 6 * c) from by rw [show (6 : Int32) = nI 6 from rfl, pk_mul, show (75 : Int32) = nI 75 from rfl, nI_add], show (nI (75 + 6 * c) + 1 : Int32) = nI (75 + 6 * c + 1) from nI_1 _, show (nI (75 + 6 * c) + 2 : Int32) = nI (75 + 6 * c + 2) from nI_add _ 2, gd_nI (N := 147) (by omega) (by decide), nm_s, gd_nI (N := 147) (by omega) (by decide), nm_s, gd_nI (N := 147) (by omega) (by decide), nm_s, gd_t (by decide), gd_t (by decide), nm_s, nI_clamp (n := 75 + 6 * c) (by omega), nI_clamp (n := 75 + 6 * c + 1) (by omega), nI_clamp (n := 75 + 6 * c + 2) (by omega), A6g, pk_un (by omega), A6g, pk_un (by omega), A6g, pk_un (by omega), hg3, nI_1]
        · rw [A6g, A6g, A6g, A6g, e4]
          exact D.coin hc k1 k5 hq ha
      · refine Or.inr ⟨σR4, σT3, setF (setA (setA (setA σG 2 c (nI kk)) 3 (5 * c) (nI q)) 3 (5 * c + 1) (nI a)) 7 (nI (c + 1)), σ4, ?_, ?_, s3⟩
        · rw [s1, bd3_s, gd_t (Or.inl rfl)]
        · rw [s2, Option.bind_some]
          obtain ⟨f, h1, h3, e, -⟩ := s3
          rw [e, if_neg (bf_pos h1 h3).1]
    · refine Or.inr ⟨σR3, σT2, σG, σ3, ?_, ?_, y7⟩
      · rw [y5]
        rfl
      · rw [y6]
        show Option.bind (FM_mustEnd σ3) _ = _
        rw [y7.end_, Option.bind_some]
        obtain ⟨f, h1, h3, e, -⟩ := y7
        rw [e, if_neg (bf_pos h1 h3).1]
  · refine Or.inr ⟨σR2, σT, σG, σ2, ?_, ?_, x7⟩
    · rw [x5]
      rfl
    · rw [x6, bd2_s, x7.num, bd2_s, x7.end_, Option.bind_some]
      obtain ⟨f, h1, h3, e, -⟩ := x7
      rw [e, if_neg (bf_pos h1 h3).1]
theorem JG.coin (h : JG m u σ0 σT σ) (σR : MS) {r h' c : Nat} (D : DR r h' c σG (σ.2 6)) (hc : c < 12) : (∃ σT1 σR' σT' σG' σ', FT_step σT = some σT1 ∧ FR_readCoin σR σT1 σG = some (1, σR', σT', σG') ∧ FM_readCoin σ = some σ' ∧ JG m u σ0 σT' σ' ∧ DR r h' (c + 1) σG' (σ'.2 6)) ∨ (∃ σT1 σR' σT' σG' σ', FT_step σT = some σT1 ∧ FR_readCoin σR σT1 σG = some (0, σR', σT', σG') ∧ FM_readCoin σ = some σ' ∧ JB m u σ0 σR' σ') := by
  have hg : ¬ σ.2 6 3 = 12 := by
    rw [D.2.2.2.1.2.1]
    intro q
    have := (nI_eq (a := c) (b := 12) (by omega) (by decide)).mp q
    omega
  obtain ⟨σT1, σ1, i1, i2, i3, i4⟩ := h.begins (a := 3) (by decide) hg
  have D1 : DR r h' c σG (σ1.2 6) := by rw [i4]; exact D
  obtain ⟨v, n1, hk⟩ := i3.kindW σR
  have hM0 : FM_readCoin σ = Option.bind (FM_kindBy v) fun (r4 : Int32) => if r4 = (-1000000) then (FM_readCoin_34 σ1 r4 0) else (FM_readCoin_34 σ1 r4 1) := by
    unfold FM_readCoin
    rw [show FM_begins σ 3 12 = _ from i2, Option.bind_some, n1, Option.bind_some, i3.2.2.1]
    cases FM_kindBy v with
    | none => rfl
    | some x => rw [Option.bind_some, Option.bind_some, if_pos rfl]
  rcases hk with ⟨kk, k1, k5, q1, q2⟩ | ⟨q1, q2⟩
  · obtain ⟨σT2, σ2, j1, -, j2, j3, j4⟩ := i3.next
    have D2 : DR r h' c σG (σ2.2 6) := by rw [j4]; exact D1
    have hM1 : FM_readCoin σ = FM_readCoin_37 σ2 (nI kk) := by
      rw [hM0, q2, Option.bind_some, if_neg (nI_ne_none (by omega)), FM_readCoin_34, j2, Option.bind_some]
    rcases j3.c37 σR D2 hc k1 k5 with ⟨σR3, σT3, σG3, σ3, l1, l2, l3, l4⟩ | ⟨σR3, σT3, σG3, σ3, l1, l2, l3⟩
    · refine Or.inl ⟨σT1, σR3, σT3, σG3, σ3, i1, ?_, hM1.trans l2, l3, l4⟩
      unfold FR_readCoin
      rw [q1, Option.bind_some, if_neg (nI_ne0 (by omega) (by omega)), j1, Option.bind_some]
      exact l1
    · refine Or.inr ⟨σT1, σR3, σT3, σG3, σ3, i1, ?_, hM1.trans l2, l3⟩
      unfold FR_readCoin
      rw [q1, Option.bind_some, if_neg (nI_ne0 (by omega) (by omega)), j1, Option.bind_some]
      exact l1
  · obtain ⟨σR3, σ3, j1, j2, j3, -⟩ := i3.must0 σR
    refine Or.inr ⟨σT1, σR3, σT1, σG, σ3, i1, ?_, ?_, j3⟩
    · unfold FR_readCoin
      rw [q1, Option.bind_some, if_pos rfl, j2, bd2_s, gd_t (Or.inl rfl)]
    · rw [hM0, q2, Option.bind_some, if_pos rfl, FM_readCoin_34, j1, Option.bind_some, j3.c37]
theorem coins_loop (n nB : Nat) {r h' : Nat} : ∀ (d c : Nat) (σR σT σG σ : MS), c + d = 12 → JG m u σ0 σT σ → DR r h' c σG (σ.2 6) → (∃ c' σR' σT' σG' σ', FR_readCoins_2 (n + d + 1) σR σT σG (nI c) = some (1, σR', σT', σG') ∧ FM_realm_148 (nB + d + 2) σ = (if (σ'.1 15) = 1 then (FM_realm_186 σ') else (Option.bind (FM_bad σ' 1) fun (σ37 : MS) => FM_realm_186 σ37)) ∧ JG m u σ0 σT' σ' ∧ DR r h' c' σG' (σ'.2 6)) ∨ (∃ σR' σT' σG' σ', FR_readCoins_2 (n + d + 1) σR σT σG (nI c) = some (0, σR', σT', σG') ∧ FM_realm_148 (nB + d + 2) σ = some (-1000100 - σR'.1 3, setF σ' 12 (σR'.1 2)) ∧ JB m u σ0 σR' σ') := by
  intro d
  induction d with
  | zero =>
    intro c σR σT σG σ hr h D
    have hr : c = 12 := hr
    subst hr
    obtain ⟨v, n1, n2⟩ := h.name
    show (∃ c' σR' σT' σG' σ', FR_readCoins_2 (n + 1) σR σT σG (nI 12) = _ ∧ FM_realm_148 (nB + 1 + 1) σ = _ ∧ _) ∨ (∃ σR' σT' σG' σ', FR_readCoins_2 (n + 1) σR σT σG (nI 12) = _ ∧ FM_realm_148 (nB + 1 + 1) σ = _ ∧ _)
    rw [FR_readCoins_2, FM_realm_148, n1, Option.bind_some, n2 3 (by decide), Option.bind_some, if_neg (show ¬ (12 : Int32) < nI 12 by decide), zc_v.2.2.2.1]
    by_cases z : v = 1668245870
    · obtain ⟨σR', σ', i1, i2, i3, i4⟩ := h.beginsF σR (a := 3) (by decide) (b := 12) D.2.2.2.1.2.1
      refine Or.inr ⟨σR', σT, σG, σ', ?_, ?_, i3⟩
      · rw [if_pos z, if_neg one_ne_zero32, if_pos (show nI 12 = 12 from rfl), i1, bd2_s, gd_t (Or.inl rfl)]
      · rw [if_pos ((lg_cmp_eq _ _).mpr z), FM_readCoin, show FM_begins σ 3 12 = _ from i2, Option.bind_some, i3.name, Option.bind_some, show FM_kindBy 0 = some (-1000000) from by decide +kernel, Option.bind_some]
        have h37 := i3.c37
        have h148 := i3.e148 nB
        obtain ⟨f, h1, h3, e, -⟩ := i3
        rw [e, if_neg (bf_pos h1 h3).1, h37, Option.bind_some, h148]
    · refine Or.inl ⟨12, σR, σT, σG, σ, ?_, ?_, h, D⟩
      · rw [if_neg z, if_pos rfl]
      · rw [if_neg (fun q => z ((lg_cmp_eq _ _).mp q)), h.2.2.1, if_pos rfl]
  | succ d ih =>
    intro c σR σT σG σ hr h D
    obtain ⟨v, n1, n2⟩ := h.name
    show (∃ c' σR' σT' σG' σ', FR_readCoins_2 ((n + d + 1) + 1) σR σT σG (nI c) = _ ∧ FM_realm_148 ((nB + d + 2) + 1) σ = _ ∧ _) ∨ (∃ σR' σT' σG' σ', FR_readCoins_2 ((n + d + 1) + 1) σR σT σG (nI c) = _ ∧ FM_realm_148 ((nB + d + 2) + 1) σ = _ ∧ _)
    rw [FR_readCoins_2, FM_realm_148, n1, Option.bind_some, n2 3 (by decide), Option.bind_some, if_neg (show ¬ (12 : Int32) < nI c from nI_nlt (a := 12) (by omega) (by decide)), zc_v.2.2.2.1]
    by_cases z : v = 1668245870
    · rw [if_pos z, if_neg one_ne_zero32, if_neg (show ¬ nI c = 12 from fun q => by have := (nI_eq (a := c) (b := 12) (by omega) (by decide)).mp q; omega), if_pos ((lg_cmp_eq _ _).mpr z)]
      rcases h.coin σR D (by omega) with ⟨σT1, σR2, σT2, σG2, σ2, j0, j1, j2, j3, j4⟩ | ⟨σT1, σR2, σT2, σG2, σ2, j0, j1, j2, j3⟩
      · rw [j0, Option.bind_some, j1, j2, Option.bind_some]
        rw [bd4_s, if_neg one_ne_zero32, nm_s, nI_1]
        exact ih (c + 1) σR2 σT2 σG2 σ2 (by omega) j3 j4
      · refine Or.inr ⟨σR2, σT2, σG2, σ2, ?_, ?_, j3⟩
        · rw [j0, Option.bind_some, j1]
          rfl
        · rw [j2, Option.bind_some]
          exact j3.e148 (nB + d + 1)
    · refine Or.inl ⟨c, σR, σT, σG, σ, ?_, ?_, h, D⟩
      · rw [if_neg z, if_pos rfl]
      · rw [if_neg (fun q => z ((lg_cmp_eq _ _).mp q)), h.2.2.1, if_pos rfl]
end RC
/-! PURE: realm: roads into ways, over each town in turn, by both -/
def fw (w : Nat → Nat → Nat) : Nat → Nat → Nat → Nat
  | 0, a, b => w a b
  | k + 1, a, b => min (fw w k a b) (fw w k a k + fw w k k b)
section FW
variable {w : Nat → Nat → Nat}
theorem WR.le (hw : WR w) {a b : Nat} (ha : a < 8) (hb : b < 8) : w a b ≤ 1000000 := by
  rcases (hw a b ha hb).1 with z | z <;> omega
theorem fw_inv (hw : WR w) : ∀ k, k ≤ 8 → (∀ a, a < 8 → fw w k a a = 0) ∧ (∀ a b, a < 8 → b < 8 → fw w k a b = fw w k b a) ∧ (∀ a b, a < 8 → b < 8 → a ≠ b → 1 ≤ fw w k a b) ∧ (∀ a b, a < 8 → b < 8 → fw w k a b ≤ w a b) ∧ (∀ a b c, a < 8 → b < 8 → c < k → fw w k a b ≤ fw w k a c + w c b) ∧ (∀ a b, a < 8 → b < 8 → fw w k a b < 1000000 → fw w k a b = w a b ∨ ∃ c, c < k ∧ c ≠ b ∧ fw w k a c + w c b = fw w k a b) := by
  intro k
  induction k with
  | zero =>
    intro _
    refine ⟨fun a ha => (hw a a ha ha).2.2.1 rfl, fun a b ha hb => (hw a b ha hb).2.1, fun a b ha hb hn => (hw a b ha hb).2.2.2 hn, fun a b _ _ => Nat.le_refl _, fun a b c _ _ hc => absurd hc (Nat.not_lt_zero c), fun a b _ _ _ => Or.inl rfl⟩
  | succ k ih =>
    intro hk
    obtain ⟨i1, i2, i3, i4, i5, i6⟩ := ih (by omega)
    have hk8 : k < 8 := by omega
    have e : ∀ a b, fw w (k + 1) a b = min (fw w k a b) (fw w k a k + fw w k k b) := fun _ _ => rfl
    have ek : ∀ a, a < 8 → fw w (k + 1) a k = fw w k a k := fun a ha => by rw [e, i1 k hk8]; omega
    have T : ∀ a b c, a < 8 → b < 8 → c < k + 1 → fw w (k + 1) a b ≤ fw w (k + 1) a c + w c b := by
      intro a b c ha hb hc
      by_cases z : c = k
      · subst z
        rw [ek a ha, e]
        have := i4 c b hk8 hb
        omega
      · have h1 := i5 a b c ha hb (by omega)
        have h2 := i5 k b c hk8 hb (by omega)
        rw [e, e]
        omega
    refine ⟨fun a ha => ?_, fun a b ha hb => ?_, fun a b ha hb hn => ?_, fun a b ha hb => ?_, T, fun a b ha hb hf => ?_⟩
    · rw [e, i1 a ha]; omega
    · rw [e, e, i2 a b ha hb, i2 a k ha hk8, i2 k b hk8 hb, Nat.add_comm]
    · rw [e]
      have h1 := i3 a b ha hb hn
      by_cases z : a = k
      · have h2 := i3 k b hk8 hb (fun q => hn (z.trans q))
        omega
      · have h2 := i3 a k ha hk8 z
        omega
    · rw [e]
      have := i4 a b ha hb
      omega
    · by_cases z : fw w k a b ≤ fw w k a k + fw w k k b
      · have e1 : fw w (k + 1) a b = fw w k a b := by rw [e]; omega
        rw [e1] at hf
        rcases i6 a b ha hb hf with q | ⟨c, c1, c2, c3⟩
        · exact Or.inl (e1.trans q)
        · refine Or.inr ⟨c, by omega, c2, ?_⟩
          have h1 := T a b c ha hb (by omega)
          have h2 : fw w (k + 1) a c ≤ fw w k a c := by rw [e]; omega
          omega
      · have e1 : fw w (k + 1) a b = fw w k a k + fw w k k b := by rw [e]; omega
        rcases i6 k b hk8 hb (by omega) with q | ⟨c, c1, c2, c3⟩
        · refine Or.inr ⟨k, by omega, fun y => ?_, ?_⟩
          · subst y
            rw [i1 k hk8] at z
            omega
          · rw [ek a ha]
            omega
        · refine Or.inr ⟨c, by omega, c2, ?_⟩
          have h1 := T a b c ha hb (by omega)
          have h2 : fw w (k + 1) a c ≤ fw w k a k + fw w k k c := by rw [e]; omega
          omega
def cl (f : Nat → Nat) (x : Nat) : Nat → Nat
  | 0 => 0
  | k + 1 => cl f x k + (if f k < x then 1 else 0)
theorem cl_le (f : Nat → Nat) (x : Nat) : ∀ k, cl f x k ≤ k := by
  intro k
  induction k with
  | zero => exact Nat.le_refl _
  | succ k ih =>
    show cl f x k + (if f k < x then 1 else 0) ≤ k + 1
    split <;> omega
theorem cl_mono (f : Nat → Nat) {x y : Nat} (h : y ≤ x) : ∀ k, cl f y k ≤ cl f x k := by
  intro k
  induction k with
  | zero => exact Nat.le_refl _
  | succ k ih =>
    show cl f y k + (if f k < y then 1 else 0) ≤ cl f x k + (if f k < x then 1 else 0)
    by_cases z : f k < y
    · rw [if_pos z, if_pos (by omega)]; omega
    · rw [if_neg z]; omega
theorem cl_strict (f : Nat → Nat) {x c : Nat} (h : f c < x) : ∀ k, c < k → cl f (f c) k + 1 ≤ cl f x k := by
  intro k
  induction k with
  | zero => intro hc; exact absurd hc (Nat.not_lt_zero c)
  | succ k ih =>
    intro hc
    show cl f (f c) k + (if f k < f c then 1 else 0) + 1 ≤ cl f x k + (if f k < x then 1 else 0)
    by_cases z : c = k
    · subst z
      have := cl_mono f (Nat.le_of_lt h) c
      rw [if_neg (Nat.lt_irrefl _), if_pos h]
      omega
    · have := ih (by omega)
      by_cases z2 : f k < f c
      · rw [if_pos z2, if_pos (by omega)]; omega
      · rw [if_neg z2]; omega
theorem fw_bd (hw : WR w) {k : Nat} (hk : k ≤ 8) {a : Nat} (ha : a < 8) : ∀ (x b : Nat), b < 8 → fw w k a b = x → x < 1000000 → x ≤ 90 * (cl (fw w k a) x k + 1) := by
  obtain ⟨-, -, -, -, -, L⟩ := fw_inv hw k hk
  intro x
  induction x using Nat.strongRecOn with
  | ind x ih =>
    intro b hb e hx
    rcases L a b ha hb (by omega) with q | ⟨c, c1, c2, c3⟩
    · have := (hw a b ha hb).1
      omega
    · have h1 := (hw c b (by omega) hb).2.2.2 c2
      have h2 := (hw c b (by omega) hb).1
      have h3 := ih (fw w k a c) (by omega) c (by omega) rfl (by omega)
      have h4 := cl_strict (fw w k a) (x := x) (c := c) (by omega) k c1
      omega
theorem fw_fin (hw : WR w) {k : Nat} (hk : k ≤ 8) {a b : Nat} (ha : a < 8) (hb : b < 8) : fw w k a b = 1000000 ∨ fw w k a b ≤ 810 := by
  obtain ⟨-, -, -, i4, -⟩ := fw_inv hw k hk
  have h1 := i4 a b ha hb
  have h2 := hw.le ha hb
  rcases Nat.lt_or_ge (fw w k a b) 1000000 with z | z
  · right
    have h3 := fw_bd hw hk ha _ b hb rfl z
    have h4 := cl_le (fw w k a) (fw w k a b) k
    omega
  · left; omega
theorem capmin {x y z : Nat} (hx : x = 1000000 ∨ x ≤ 810) (hy : y = 1000000 ∨ y ≤ 810) (hz : z = 1000000 ∨ z ≤ 810) : min (cap x) (cap y + cap z) = cap (min x (y + z)) := by
  unfold cap
  split <;> split <;> split <;> split <;> omega
def mx (w : Nat → Nat → Nat) (k a b i j : Nat) : Nat := if i < a ∨ (i = a ∧ j < b) then fw w (k + 1) i j else fw w k i j
def MC (w : Nat → Nat → Nat) (σ : MS) (k a b : Nat) : Prop := ∀ i j, i < 8 → j < 8 → σ.2 0 (8 * i + j) = nI (mx w k a b i j)
def MM (w : Nat → Nat → Nat) (σ : MS) (k a b : Nat) : Prop := ∀ i j, i < 8 → j < 8 → σ.2 6 (5 + 8 * i + j) = nI (cap (mx w k a b i j))
theorem mx_ak (hw : WR w) {k a b : Nat} (hk : k < 8) (ha : a < 8) : mx w k a b a k = fw w k a k := by
  obtain ⟨i1, -⟩ := fw_inv hw k (by omega)
  unfold mx
  split
  · show min (fw w k a k) (fw w k a k + fw w k k k) = _
    rw [i1 k hk]; omega
  · rfl
theorem mx_kb (hw : WR w) {k a b : Nat} (hk : k < 8) (hb : b < 8) : mx w k a b k b = fw w k k b := by
  obtain ⟨i1, -⟩ := fw_inv hw k (by omega)
  unfold mx
  split
  · show min (fw w k k b) (fw w k k k + fw w k k b) = _
    rw [i1 k hk]; omega
  · rfl
theorem mx_ab {k a b : Nat} : mx w k a b a b = fw w k a b := by
  unfold mx
  rw [if_neg (by omega)]
theorem mx_0 {i j : Nat} : mx w 0 0 0 i j = w i j := by
  unfold mx
  rw [if_neg (by omega)]
  rfl
theorem mx_s {k a b i j : Nat} (h : ¬ (i = a ∧ j = b)) : mx w k a (b + 1) i j = mx w k a b i j := by
  unfold mx
  by_cases z : i < a ∨ (i = a ∧ j < b)
  · rw [if_pos z, if_pos (by omega)]
  · rw [if_neg z, if_neg (by omega)]
theorem mx_e {k a b : Nat} : mx w k a (b + 1) a b = fw w (k + 1) a b := by
  unfold mx
  rw [if_pos (by omega)]
theorem mx_8 {k a i j : Nat} (hj : j < 8) : mx w k (a + 1) 0 i j = mx w k a 8 i j := by
  unfold mx
  by_cases z : i < a ∨ (i = a ∧ j < 8)
  · rw [if_pos z, if_pos (by omega)]
  · rw [if_neg z, if_neg (by omega)]
theorem mx_n {k i j : Nat} (hi : i < 8) : mx w (k + 1) 0 0 i j = mx w k 8 0 i j := by
  unfold mx
  rw [if_neg (by omega), if_pos (by omega)]
theorem ix8 (a b : Nat) : (nI a * 8 + nI b : Int32) = nI (8 * a + b) := by
  rw [show (8 : Int32) = nI 8 from rfl, pk_mul, nI_add, Nat.mul_comm]
theorem ix58 (a b : Nat) : (5 + 8 * nI a + nI b : Int32) = nI (5 + 8 * a + b) := by
  rw [show (8 : Int32) = nI 8 from rfl, pk_mul, show (5 : Int32) = nI 5 from rfl, nI_add, nI_add]
def S0 (a b : MS) : Prop := b.1 = a.1 ∧ ∀ i, i ≠ 0 → b.2 i = a.2 i
theorem S0.rf (a : MS) : S0 a a := ⟨rfl, fun _ _ => rfl⟩
theorem S0.tr {a b c : MS} (h : S0 a b) (h' : S0 b c) : S0 a c := ⟨h'.1.trans h.1, fun i hi => (h'.2 i hi).trans (h.2 i hi)⟩
theorem sw18 (hw : WR w) {k a : Nat} (hk : k < 8) (ha : a < 8) (ag2 : MS → Int32 → Option MS) (ag10 : MS → Int32 → Int32 → Option MS) (n : Nat) : ∀ (d b : Nat) (σ : MS), b + d = 8 → MC w σ k a b → ∃ σ', FL_shortenWays_18 ag2 ag10 (n + d + 1) σ (nI k) (nI a) (nI b) = ag10 σ' (nI k) (nI (a + 1)) ∧ MC w σ' k (a + 1) 0 ∧ S0 σ σ' := by
  intro d
  induction d with
  | zero =>
    intro b σ hb hM
    have hb : b = 8 := hb
    subst hb
    refine ⟨σ, ?_, fun i j hi hj => by rw [mx_8 hj]; exact hM i j hi hj, S0.rf σ⟩
    rw [FL_shortenWays_18, if_pos (show (8 : Int32) ≤ nI 8 by decide)]
    simp only [nm]
    rw [nI_1]
  | succ d ih =>
    intro b σ hb hM
    have hb8 : b < 8 := by omega
    have v1 := hM a k ha hk
    have v2 := hM k b hk hb8
    have v3 := hM a b ha hb8
    rw [mx_ak hw hk ha] at v1
    rw [mx_kb hw hk hb8] at v2
    rw [mx_ab] at v3
    have f1 := fw_fin hw (k := k) (by omega) ha hk
    have f2 := fw_fin hw (k := k) (by omega) hk hb8
    have f3 := fw_fin hw (k := k) (by omega) ha hb8
    obtain ⟨σ', i1, i2, i3⟩ := ih (b + 1) (setA σ 0 (8 * a + b) (nI (fw w (k + 1) a b))) (by omega) (fun i j hi hj => by
      show upd (σ.2 0) (8 * a + b) _ (8 * i + j) = _
      by_cases z : i = a ∧ j = b
      · rw [z.1, z.2, pk_us, mx_e]
      · rw [pk_un (by omega), mx_s z]; exact hM i j hi hj)
    refine ⟨σ', ?_, i2, (show S0 σ (setA σ 0 (8 * a + b) (nI (fw w (k + 1) a b))) from ⟨rfl, fun _ hi => va_up_ne _ _ hi⟩).tr i3⟩
    show FL_shortenWays_18 ag2 ag10 ((n + d + 1) + 1) σ _ _ _ = _
    rw [FL_shortenWays_18, if_neg (show ¬ (8 : Int32) ≤ nI b from nI_ge (b := 8) hb8 (by decide)), ix8, ix8, ix8, gd_nI (N := 64) (by omega) (by decide), gd_nI (N := 64) (by omega) (by decide)]
    simp only [nm]
    rw [gd_nI (N := 64) (by omega) (by decide), gd_nI (N := 64) (by omega) (by decide), nI_clamp (n := 8 * a + k) (by omega), nI_clamp (n := 8 * k + b) (by omega), nI_clamp (n := 8 * a + b) (by omega), v1, v2, v3, nI_add, nI_1, show (if nI (fw w k a k + fw w k k b) < nI (fw w k a b) then nI (fw w k a k + fw w k k b) else nI (fw w k a b)) = nI (fw w (k + 1) a b) from by
      show _ = nI (min (fw w k a b) (fw w k a k + fw w k k b))
      by_cases z : fw w k a k + fw w k k b < fw w k a b
      · rw [if_pos (nI_lt z (by omega)), Nat.min_eq_right (by omega)]
      · rw [if_neg (nI_nlt (by omega) (by omega)), Nat.min_eq_left (by omega)]]
    exact i1
theorem sw10 (hw : WR w) {k : Nat} (hk : k < 8) (ag2 : MS → Int32 → Option MS) (n : Nat) : ∀ (d a : Nat) (σ : MS), a + d = 8 → MC w σ k a 0 → ∃ σ', FL_shortenWays_10 ag2 (n + d + 1) σ (nI k) (nI a) = ag2 σ' (nI (k + 1)) ∧ MC w σ' (k + 1) 0 0 ∧ S0 σ σ' := by
  intro d
  induction d with
  | zero =>
    intro a σ ha hM
    have ha : a = 8 := ha
    subst ha
    refine ⟨σ, ?_, fun i j hi hj => by rw [mx_n hi]; exact hM i j hi hj, S0.rf σ⟩
    rw [FL_shortenWays_10, if_pos (show (8 : Int32) ≤ nI 8 by decide)]
    simp only [nm]
    rw [nI_1]
  | succ d ih =>
    intro a σ ha hM
    obtain ⟨σ1, i1, i2, i3⟩ := sw18 hw hk (show a < 8 by omega) ag2 (FL_shortenWays_10 ag2 (n + d + 1)) 4991 8 0 σ (by decide) hM
    obtain ⟨σ', j1, j2, j3⟩ := ih (a + 1) σ1 (by omega) i2
    refine ⟨σ', ?_, j2, i3.tr j3⟩
    show FL_shortenWays_10 ag2 ((n + d + 1) + 1) σ _ _ = _
    rw [FL_shortenWays_10, if_neg (show ¬ (8 : Int32) ≤ nI a from nI_ge (b := 8) (by omega) (by decide))]
    exact (i1.trans j1)
theorem sw2 (hw : WR w) (n : Nat) : ∀ (d k : Nat) (σ : MS), k + d = 8 → MC w σ k 0 0 → ∃ σ', FL_shortenWays_2 (n + d + 1) σ (nI k) = some σ' ∧ MC w σ' 8 0 0 ∧ S0 σ σ' := by
  intro d
  induction d with
  | zero =>
    intro k σ hk hM
    have hk : k = 8 := hk
    subst hk
    refine ⟨σ, ?_, hM, S0.rf σ⟩
    rw [FL_shortenWays_2, if_pos (show (8 : Int32) ≤ nI 8 by decide)]
  | succ d ih =>
    intro k σ hk hM
    obtain ⟨σ1, i1, i2, i3⟩ := sw10 hw (show k < 8 by omega) (FL_shortenWays_2 (n + d + 1)) 4991 8 0 σ (by decide) hM
    obtain ⟨σ', j1, j2, j3⟩ := ih (k + 1) σ1 (by omega) i2
    refine ⟨σ', ?_, j2, i3.tr j3⟩
    show FL_shortenWays_2 ((n + d + 1) + 1) σ _ = _
    rw [FL_shortenWays_2, if_neg (show ¬ (8 : Int32) ≤ nI k from nI_ge (b := 8) (by omega) (by decide))]
    exact (i1.trans j1)
theorem lf18 (hw : WR w) {k a : Nat} (hk : k < 8) (ha : a < 8) (ag2 : MS → Int32 → Option MS) (ag10 : MS → Int32 → Int32 → Option MS) (n : Nat) : ∀ (d b : Nat) (σ : MS), b + d = 8 → MM w σ k a b → ∃ σ', FM_layFar_18 ag2 ag10 (n + d + 1) σ (nI k) (nI a) (nI b) = ag10 σ' (nI k) (nI (a + 1)) ∧ MM w σ' k (a + 1) 0 ∧ S6 σ σ' ∧ (∀ j, ¬ (5 ≤ j ∧ j < 69) → σ'.2 6 j = σ.2 6 j) := by
  intro d
  induction d with
  | zero =>
    intro b σ hb hM
    have hb : b = 8 := hb
    subst hb
    refine ⟨σ, ?_, fun i j hi hj => by rw [mx_8 hj]; exact hM i j hi hj, S6.rf σ, fun _ _ => rfl⟩
    rw [FM_layFar_18, if_pos (show (8 : Int32) ≤ nI 8 by decide)]
    simp only [nm]
    rw [nI_1]
  | succ d ih =>
    intro b σ hb hM
    have hb8 : b < 8 := by omega
    have v1 := hM a k ha hk
    have v2 := hM k b hk hb8
    have v3 := hM a b ha hb8
    rw [mx_ak hw hk ha] at v1
    rw [mx_kb hw hk hb8] at v2
    rw [mx_ab] at v3
    have f1 := fw_fin hw (k := k) (by omega) ha hk
    have f2 := fw_fin hw (k := k) (by omega) hk hb8
    have f3 := fw_fin hw (k := k) (by omega) ha hb8
    have cm := capmin f3 f1 f2
    have c1 : cap (fw w k a k) ≤ 10000 := by unfold cap; split <;> omega
    have c2 : cap (fw w k k b) ≤ 10000 := by unfold cap; split <;> omega
    have c3 : cap (fw w k a b) ≤ 10000 := by unfold cap; split <;> omega
    obtain ⟨σ', i1, i2, i3, i4⟩ := ih (b + 1) (setA σ 6 (5 + 8 * a + b) (nI (cap (fw w (k + 1) a b)))) (by omega) (fun i j hi hj => by
      rw [A6g]
      by_cases z : i = a ∧ j = b
      · rw [z.1, z.2, pk_us, mx_e]
      · rw [pk_un (by omega), mx_s z]; exact hM i j hi hj)
    refine ⟨σ', ?_, i2, (S6.st σ _ _).tr i3, fun j hj => by rw [i4 j hj, A6g, pk_un (by omega)]⟩
    have h101 : ∀ x, FM_layFar_101 ag2 ag10 (FM_layFar_18 ag2 ag10 (n + d + 1)) σ (nI k) (nI a) (nI b) x (nI (5 + 8 * a + b)) = FM_layFar_18 ag2 ag10 (n + d + 1) (setA σ 6 (5 + 8 * a + b) x) (nI k) (nI a) (nI (b + 1)) := fun x => by
      unfold FM_layFar_101
      rw [gd_nI (N := 147) (by omega) (by decide), nI_clamp (by omega)]
      simp only [nm]
      rw [nI_1]
    show FM_layFar_18 ag2 ag10 ((n + d + 1) + 1) σ _ _ _ = _
    rw [FM_layFar_18, if_neg (show ¬ (8 : Int32) ≤ nI b from nI_ge (b := 8) hb8 (by decide)), ix58, ix58, ix58, gd_nI (N := 147) (by omega) (by decide), gd_nI (N := 147) (by omega) (by decide)]
    simp only [nm]
    rw [gd_nI (N := 147) (by omega) (by decide), nI_clamp (n := 5 + 8 * a + k) (by omega), nI_clamp (n := 5 + 8 * k + b) (by omega), nI_clamp (n := 5 + 8 * a + b) (by omega), gd_cl (N := 147) (by omega) (by decide), v1, v2, v3, nI_add, h101, h101]
    have e1 : fw w (k + 1) a b = min (fw w k a b) (fw w k a k + fw w k k b) := rfl
    rw [e1, ← cm] at i1
    by_cases z : cap (fw w k a b) ≤ cap (fw w k a k) + cap (fw w k k b)
    · rw [if_pos (nI_le z (by omega))]
      rw [Nat.min_eq_left z] at i1
      exact i1
    · rw [if_neg (nI_ge (by omega) (by omega))]
      rw [Nat.min_eq_right (by omega)] at i1
      exact i1
theorem lf10 (hw : WR w) {k : Nat} (hk : k < 8) (ag2 : MS → Int32 → Option MS) (n : Nat) : ∀ (d a : Nat) (σ : MS), a + d = 8 → MM w σ k a 0 → ∃ σ', FM_layFar_10 ag2 (n + d + 1) σ (nI k) (nI a) = ag2 σ' (nI (k + 1)) ∧ MM w σ' (k + 1) 0 0 ∧ S6 σ σ' ∧ (∀ j, ¬ (5 ≤ j ∧ j < 69) → σ'.2 6 j = σ.2 6 j) := by
  intro d
  induction d with
  | zero =>
    intro a σ ha hM
    have ha : a = 8 := ha
    subst ha
    refine ⟨σ, ?_, fun i j hi hj => by rw [mx_n hi]; exact hM i j hi hj, S6.rf σ, fun _ _ => rfl⟩
    rw [FM_layFar_10, if_pos (show (8 : Int32) ≤ nI 8 by decide)]
    simp only [nm]
    rw [nI_1]
  | succ d ih =>
    intro a σ ha hM
    obtain ⟨σ1, i1, i2, i3, i4⟩ := lf18 hw hk (show a < 8 by omega) ag2 (FM_layFar_10 ag2 (n + d + 1)) 4991 8 0 σ (by decide) hM
    obtain ⟨σ', j1, j2, j3, j4⟩ := ih (a + 1) σ1 (by omega) i2
    refine ⟨σ', ?_, j2, i3.tr j3, fun j hj => (j4 j hj).trans (i4 j hj)⟩
    show FM_layFar_10 ag2 ((n + d + 1) + 1) σ _ _ = _
    rw [FM_layFar_10, if_neg (show ¬ (8 : Int32) ≤ nI a from nI_ge (b := 8) (by omega) (by decide))]
    exact (i1.trans j1)
theorem lf2 (hw : WR w) (n : Nat) : ∀ (d k : Nat) (σ : MS), k + d = 8 → MM w σ k 0 0 → ∃ σ', FM_layFar_2 (n + d + 1) σ (nI k) = some σ' ∧ MM w σ' 8 0 0 ∧ S6 σ σ' ∧ (∀ j, ¬ (5 ≤ j ∧ j < 69) → σ'.2 6 j = σ.2 6 j) := by
  intro d
  induction d with
  | zero =>
    intro k σ hk hM
    have hk : k = 8 := hk
    subst hk
    refine ⟨σ, ?_, hM, S6.rf σ, fun _ _ => rfl⟩
    rw [FM_layFar_2, if_pos (show (8 : Int32) ≤ nI 8 by decide)]
  | succ d ih =>
    intro k σ hk hM
    obtain ⟨σ1, i1, i2, i3, i4⟩ := lf10 hw (show k < 8 by omega) (FM_layFar_2 (n + d + 1)) 4991 8 0 σ (by decide) hM
    obtain ⟨σ', j1, j2, j3, j4⟩ := ih (k + 1) σ1 (by omega) i2
    refine ⟨σ', ?_, j2, i3.tr j3, fun j hj => (j4 j hj).trans (i4 j hj)⟩
    show FM_layFar_2 ((n + d + 1) + 1) σ _ = _
    rw [FM_layFar_2, if_neg (show ¬ (8 : Int32) ≤ nI k from nI_ge (b := 8) (by omega) (by decide))]
    exact (i1.trans j1)
end FW
/-! PURE: realm: the call -/
theorem byte_u {B : Int32} (h1 : -128 ≤ B) (h2 : B ≤ 127) : (B.toBitVec.toNat % 256 < 128 → B = nI (B.toBitVec.toNat % 256)) ∧ (128 ≤ B.toBitVec.toNat % 256 → B < 0) := by
  rw [Int32.le_iff_toInt_le] at h1 h2
  have e1 : (-128 : Int32).toInt = -128 := by decide
  have e2 : (127 : Int32).toInt = 127 := by decide
  have e3 : (0 : Int32).toInt = 0 := by decide
  have e : B.toInt = if 2 * B.toBitVec.toNat < 2 ^ 32 then (B.toBitVec.toNat : Int) else (B.toBitVec.toNat : Int) - (2 ^ 32 : Nat) := BitVec.toInt_eq_toNat_cond B.toBitVec
  have hl : B.toBitVec.toNat < 2 ^ 32 := B.toBitVec.isLt
  generalize hn : B.toBitVec.toNat = n at e hl
  by_cases z : 2 * n < 2 ^ 32
  · rw [if_pos z] at e
    have hlt : n ≤ 127 := by omega
    refine ⟨fun _ => ?_, fun q => by omega⟩
    apply Int32.toInt_inj.mp
    rw [nI_toInt (by omega), e]
    omega
  · rw [if_neg z] at e
    refine ⟨fun q => by omega, fun _ => ?_⟩
    rw [Int32.lt_iff_toInt_lt, e, e3]
    omega
theorem copy225 (σ : MS) (n : Nat) : ∀ (d c : Nat), c + d = 147 → FM_realm_225 (n + d + 1) (setR σ 5 (va_cpy (σ.2 6) (σ.2 5) 0 0 c)) (nI c) = some ((setR σ 5 (va_cpy (σ.2 6) (σ.2 5) 0 0 147)).2 5 3, setR σ 5 (va_cpy (σ.2 6) (σ.2 5) 0 0 147)) := by
  intro d
  induction d with
  | zero =>
    intro c hc
    have hc : c = 147 := hc
    subst hc
    rw [FM_realm_225, if_pos (show (147 : Int32) ≤ nI 147 by decide), gd_t (by decide), show Int32.toNatClampNeg 3 = 3 from by decide]
  | succ d ih =>
    intro c hc
    have e := cpy_step (σ.2 6) (σ.2 5) 0 0 c
    rw [Nat.zero_add] at e
    show FM_realm_225 ((n + d + 1) + 1) _ _ = _
    rw [FM_realm_225, if_neg (show ¬ (147 : Int32) ≤ nI c from nI_ge (b := 147) (by omega) (by decide))]
    simp only [nm]
    rw [gd_nI (N := 147) (by omega) (by decide), gd_nI (N := 147) (by omega) (by decide), nI_clamp (by omega), setR_gne σ _ (show 6 ≠ 5 by decide), setA_R, setR_get, setR_setR, e, nI_1]
    exact ih (c + 1) (by omega)
/-- the reference's state as the reading begins -/
def sb (σ : MS) (m : Nat) : MS := setF (setF (setF (setF (setF σ 0 0) 13 (nI m)) 11 0) 14 0) 18 0
theorem sb_1 (σ : MS) (m : Nat) {i : Nat} (h0 : i ≠ 0) (h1 : i ≠ 13) (h2 : i ≠ 11) (h3 : i ≠ 14) (h4 : i ≠ 18) : (sb σ m).1 i = σ.1 i := (va_up_ne _ _ h4).trans ((va_up_ne _ _ h3).trans ((va_up_ne _ _ h2).trans ((va_up_ne _ _ h1).trans (va_up_ne _ _ h0))))
theorem Rel.rfail {k m : Nat} {σP σL σG σG' σR σR' σT σT' σC σA σK : MS} {ω ι : Nat → MS} {σ σ9 : MS} (h : Rel k σP σL σG σR σT σC σA σK ω ι σ) (hF : FrP (sb σ m) σ9) (x : Int32) : Rel (k + 1) (setF σP 10 x) σL σG' σR' (setF σT' 1 0) σC σA σK ω ι (setF σ9 12 x) := by
  obtain ⟨q1, q2⟩ := hF
  have hFf : ∀ i, i ≠ 0 → i ≠ 11 → i ≠ 12 → i ≠ 13 → i ≠ 14 → i ≠ 15 → i ≠ 16 → i ≠ 17 → i ≠ 18 → i ≠ 19 → (setF σ9 12 x).1 i = σ.1 i := fun i h0 h11 h12 h13 h14 h15 h16 h17 h18 h19 => (va_up_ne _ _ h12).trans ((q1 i h14 h15 h16 h17 h18 h19).trans (sb_1 σ m h0 h13 h11 h14 h18))
  have hA : ∀ i, i ≠ 6 → (setF σ9 12 x).2 i = σ.2 i := q2
  have h11 : (setF σ9 12 x).1 11 = 0 := q1 11 (by decide) (by decide) (by decide) (by decide) (by decide) (by decide)
  obtain ⟨⟨h1, h2⟩, h3, h9, ⟨h4, h5⟩, h6, h7, h8⟩ := Rel.mono _ _ _ _ _ _ _ _ _ _ _ _ h
  refine ⟨⟨?_, rfl⟩, ?_, ?_, ⟨?_, ?_⟩, ?_, ?_, ?_⟩
  · rw [hFf 1 (by decide) (by decide) (by decide) (by decide) (by decide) (by decide) (by decide) (by decide) (by decide) (by decide)]; exact h1
  · rw [hA 2 (by decide), hA 3 (by decide), hA 4 (by decide)]; exact h3
  · rw [h11]
    exact ⟨rfl, by decide, by decide, fun j hj hl => absurd hl (nI_pos (by omega))⟩
  · rw [hFf 7 (by decide) (by decide) (by decide) (by decide) (by decide) (by decide) (by decide) (by decide) (by decide) (by decide)]; exact h4
  · rw [hA 5 (by decide)]; exact h5
  · rw [hFf 9 (by decide) (by decide) (by decide) (by decide) (by decide) (by decide) (by decide) (by decide) (by decide) (by decide), hA 8 (by decide)]; exact h6
  · rw [hA 22 (by decide), hA 23 (by decide)]; exact h7
  · rw [hFf 25 (by decide) (by decide) (by decide) (by decide) (by decide) (by decide) (by decide) (by decide) (by decide) (by decide), hA 24 (by decide)]; exact h8
theorem i1_le {x : Nat} (h : 1 ≤ x) (hx : x < 2 ^ 31) : (1 : Int32) ≤ nI x := nI_le (a := 1) h hx
theorem RReal.read {k r h c : Nat} {w : Nat → Nat → Nat} {σG σG' : MS} {g g' : Nat → Int32} (D : DR r h c σG g) (hw : WR w) (hC : MC w σG' 8 0 0) (hS : S0 σG σG') (hM : ∀ i j, i < 8 → j < 8 → g' (5 + 8 * i + j) = nI (cap (mx w 8 0 0 i j))) (hg : ∀ j, j < 147 → ¬ (5 ≤ j ∧ j < 69) → g' j = g j) : RReal k 1 (σG'.1 5) (σG'.1 6) (σG'.1 7) (σG'.2 0) (σG'.2 1) (σG'.2 2) (σG'.2 3) g' := by
  obtain ⟨⟨d1, d2, d3, d4⟩, ⟨e1, e2⟩, ⟨f1, f2, f3⟩, ⟨g1, g2, g3⟩, ⟨h1, h2⟩, -, ht, hc, hz⟩ := D
  obtain ⟨v1, v2, v3, -⟩ := fw_inv hw 8 (by decide)
  have hmx : ∀ i j, mx w 8 0 0 i j = fw w 8 i j := fun i j => by unfold mx; rw [if_neg (by omega)]
  have q0 := hg 0 (by decide) (by decide)
  have q2 := hg 2 (by decide) (by decide)
  have q3 := hg 3 (by decide) (by decide)
  have q4 := hg 4 (by decide) (by decide)
  rw [hS.1, hS.2 1 (by decide), hS.2 2 (by decide), hS.2 3 (by decide)]
  refine ⟨Or.inr rfl, ⟨by rw [q0]; exact d2, by rw [q2, f1, f2], by rw [q3, g1, g2], by rw [q4, h1, h2]⟩, ⟨by rw [d2]; exact d3, by rw [d2]; exact d4, by rw [f1]; exact nI_pos' (by omega), by rw [f1]; exact nI_le (b := 6) f3 (by decide), by rw [g1]; exact nI_pos' (by omega), by rw [g1]; exact nI_le (b := 12) g3 (by decide), by rw [q4, h1]; decide, by rw [q4, h1]; decide⟩, fun z => absurd z (by decide), fun _ a b ha hb => ?_, fun i hi hl => ?_, fun j hj hl => ?_⟩
  · have hf := fw_fin hw (k := 8) (by decide) ha hb
    rw [hC a b ha hb, hC b a hb ha, hM a b ha hb, hmx, hmx, v2 b a hb ha]
    refine ⟨?_, rfl, fun hn => i1_le (v3 a b ha hb hn) (by omega)⟩
    rcases hf with z | z
    · rw [z]
      exact Or.inl ⟨rfl, rfl⟩
    · rw [cap_low (by omega)]
      exact Or.inr ⟨rfl, nI_pos' (by omega), nI_lt (b := 1000) (by omega) (by decide)⟩
  · rw [f1] at hl
    have hih := (nI_ltI (by omega) (by omega)).mp hl
    obtain ⟨t, t1, t7, y1, y2⟩ := ht i hih
    rw [hg (69 + i) (by omega) (by omega), y1, y2]
    exact ⟨rfl, i1_le t1 (by omega), nI_le (b := 7) t7 (by decide)⟩
  · rw [g1] at hl
    have hjc := (nI_ltI (by omega) (by omega)).mp hl
    obtain ⟨kk, q, a, k1, k5, hq, ha, y1, y2, y3, y4, y5, y6⟩ := hc j hjc
    have z2 := hz j hj 2 (by decide) (by decide)
    have z3 := hz j hj 3 (by decide) (by decide)
    have z4 := hz j hj 4 (by decide) (by decide)
    refine ⟨⟨by rw [hg (75 + 6 * j) (by omega) (by omega), y1, y2], by rw [y1]; exact i1_le k1 (by omega), by rw [y1]; exact nI_le (b := 5) k5 (by decide)⟩, fun f hf => ?_, ⟨by rw [y3]; exact nI_pos' (by omega), by rw [y3, f1]; exact nI_lt hq (by omega)⟩, ⟨by rw [y5]; exact nI_pos' (by omega), by rw [y5, q4, h1]; exact nI_le (b := 400) ha (by decide)⟩, Or.inl z4.1, Or.inl ⟨z2.1, z3.1⟩⟩
    rw [hg (76 + 6 * j + f) (by omega) (by omega)]
    rcases (show f = 0 ∨ f = 1 ∨ f = 2 ∨ f = 3 ∨ f = 4 by omega) with rfl | rfl | rfl | rfl | rfl
    · rw [Nat.add_zero, Nat.add_zero, y3, y4]
    · rw [y5, show 76 + 6 * j + 1 = 77 + 6 * j from by omega, y6]
    · rw [z2.1, z2.2]
    · rw [z3.1, z3.2]
    · rw [z4.1, z4.2]
theorem sim_realm : Sim_realm Rel := by
  intro k σP σL σG σR σT σC σA σK ω ι σ hk h
  obtain ⟨t1, t2, t3, t4⟩ := h.2.2.1
  obtain ⟨m, hm, em⟩ := nI_of2 (x := σ.1 11) (M := 500) (n := 500) (by decide) (Int32.not_lt.mpr t2) t3
  have hT0 : TPu m (fun j => (σT.2 0 j).toBitVec.toNat % 256) (setF σT 5 0) (sb σ m) := by
    refine ⟨hm, t1.trans em, rfl, fun j hj => ?_⟩
    obtain ⟨y1, y2, y3⟩ := t4 j (by omega) (by rw [em]; exact nI_lt hj (by omega))
    refine ⟨Nat.mod_lt _ (by decide), ?_, (byte_u y2 y3).1, (byte_u y2 y3).2⟩
    show σ.2 10 j = _
    rw [y1]
    exact pk_and (σT.2 0 j) 8 (by decide)
  generalize (fun j => (σT.2 0 j).toBitVec.toNat % 256) = u at hT0
  obtain ⟨σT1, σ1, s, e, y, b1, b2, b3, b4, b5⟩ := tok_step hT0 (i := 0) (by omega) rfl rfl
  have J1 : JG m u (sb σ m) σT1 σ1 := ⟨hT0.fr b4 b5, ⟨s, e, y, b3⟩, b5.1 18 (by decide) (by decide) (by decide) (by decide), b5.p⟩
  obtain ⟨σG2, c1, c2, c3, c4⟩ := p_clear σG
  obtain ⟨σ3, d1, d2, d3⟩ := fill_loop 4852 147 0 σ1 (by decide) (fun j hj => absurd hj (Nat.not_lt_zero j))
  obtain ⟨σ5, e1, e2, e3, e4⟩ := diag_loop 4991 8 0 σ3 (by decide) (fun j hj q => by rw [d2 j hj, if_pos q, if_neg (by omega)]) (fun j hj q => by rw [d2 j hj, if_neg q])
  have J5 : JG m u (sb σ m) σT1 σ5 := J1.s6 (d3.tr e4)
  have D5 : DR 0 0 0 σG2 (σ5.2 6) := DR_0 c2 c3 c4 e2 e3
  have hM : FM_realm σ = (Option.bind (FM_name σ5) fun (r11 : Int64) => if (lg_cmp r11 7102839) = 0 then (FM_realm_91 σ5 1) else (FM_realm_91 σ5 0)) := by
    unfold FM_realm FM_begin
    simp only [nm]
    rw [show (setF σ 0 0).1 11 = nI m from em, show FM_next (setF (setF (setF (setF (setF σ 0 0) 13 (nI m)) 11 0) 14 0) 18 0) = _ from b2, Option.bind_some, Option.bind_some, show FM_realm_11 fuelN σ1 0 = _ from d1]
    exact e1
  have hL0 : ∀ X, (bd4 (FR_readLaw σR σT1 σG2) fun (r5 : Int32) (σ6 : MS) (σ7 : MS) (σ8 : MS) => if r5 = 0 then (some ((0 : Int32), σ6, σ7, σ8)) else (bd4 (FR_readRoads σ6 σ7 σ8) fun (r10 : Int32) (σ11 : MS) (σ12 : MS) (σ13 : MS) => if r10 = 0 then (some (0, σ11, σ12, σ13)) else (bd4 (FR_readHolders σ11 σ12 σ13) fun (r15 : Int32) (σ16 : MS) (σ17 : MS) (σ18 : MS) => if r15 = 0 then (some (0, σ16, σ17, σ18)) else (bd4 (FR_readCoins σ16 σ17 σ18) fun (r20 : Int32) (σ21 : MS) (σ22 : MS) (σ23 : MS) => if r20 = 0 then (some (0, σ21, σ22, σ23)) else (if (σ22.1 2) = 0 then (Option.bind (FL_shortenWays σ23) fun (σ27 : MS) => nm (setF σ27 4 1) fun (σ28 : MS) => some (1, σ21, σ22, σ28)) else (bd2 (FR_faulty σ21 σ22 1) fun (r29 : Int32) (σ30 : MS) => gd (r29 = 0 ∨ r29 = 1) (some (r29, σ30, σ22, σ23)))))))) = X → FR_read σR σT σG = X := by
    intro X hX
    unfold FR_read FT_rewind
    simp only [nm] at hX ⊢
    rw [c1, Option.bind_some, b1, Option.bind_some, Option.bind_some]
    exact hX
  have fail : ∀ (σR' σT' σG' σ' : MS), FR_read σR σT σG = some (0, σR', σT', σG') → FM_realm σ = some (-1000100 - σR'.1 3, setF σ' 12 (σR'.1 2)) → JB m u (sb σ m) σR' σ' → ∃ (rr : Int32) (σR1 σT1 σG1 σT2 : MS) (r : Int32) (σ' : MS), FR_read σR σT σG = some (rr, σR1, σT1, σG1) ∧ FT_empty σT1 = some σT2 ∧ FM_realm σ = some (r, σ') ∧ ((rr = 0 ∧ r = -1000100 - σR1.1 3 ∧ Rel (k + 1) (setF σP 10 (σR1.1 2)) σL σG1 σR1 σT2 σC σA σK ω ι σ') ∨ (¬ rr = 0 ∧ r = σG1.1 7 ∧ ∃ σK1, FK_forgetAll σK = some σK1 ∧ Rel (k + 1) σP σG1 σL σR1 σT2 σC σA σK1 ω ι σ')) := by
    intro σR' σT' σG' σ' f1 f2 f3
    obtain ⟨f, -, -, -, -, -, -, hF⟩ := f3
    exact ⟨0, σR', σT', σG', setF σT' 1 0, _, _, f1, rfl, f2, Or.inl ⟨rfl, rfl, h.rfail hF _⟩⟩
  rcases J5.law σR D5 with ⟨σR6, σT6, σG6, σ6, l1, l2, l3, l4⟩ | ⟨σR6, σT6, σG6, σ6, l1, l2, l3⟩
  · rcases roads_loop 4985 4984 14 0 σR6 σT6 σG6 σ6 (by decide) l3 l4 with ⟨r7, σR7, σT7, σG7, σ7, m1, m2, m3, m4⟩ | ⟨σR7, σT7, σG7, σ7, m1, m2, m3⟩
    · rcases holders_loop 4993 4992 6 0 σR7 σT7 σG7 σ7 (by decide) m3 m4 with ⟨h8, σR8, σT8, σG8, σ8, o1, o2, o3, o4⟩ | ⟨σR8, σT8, σG8, σ8, o1, o2, o3⟩
      · rcases coins_loop 4987 4986 12 0 σR8 σT8 σG8 σ8 (by decide) o3 o4 with ⟨c9, σR9, σT9, σG9, σ9, p1, p2, p3, p4⟩ | ⟨σR9, σT9, σG9, σ9, p1, p2, p3⟩
        · have hL1 : ∀ X, (if (σT9.1 2) = 0 then (Option.bind (FL_shortenWays σG9) fun (σ27 : MS) => nm (setF σ27 4 1) fun (σ28 : MS) => some ((1 : Int32), σR9, σT9, σ28)) else (bd2 (FR_faulty σR9 σT9 1) fun (r29 : Int32) (σ30 : MS) => gd (r29 = 0 ∨ r29 = 1) (some (r29, σ30, σT9, σG9)))) = X → FR_read σR σT σG = X := by
            intro X hX
            refine hL0 X ?_
            rw [l1, bd4_s, if_neg one_ne_zero32, show FR_readRoads σR6 σT6 σG6 = _ from m1, bd4_s, if_neg one_ne_zero32, show FR_readHolders σR7 σT7 σG7 = _ from o1, bd4_s, if_neg one_ne_zero32, show FR_readCoins σR8 σT8 σG8 = _ from p1, bd4_s, if_neg one_ne_zero32]
            exact hX
          have hM1 : FM_realm σ = (if (σ9.1 15) = 1 then (FM_realm_186 σ9) else (Option.bind (FM_bad σ9 1) fun (σ37 : MS) => FM_realm_186 σ37)) := hM.trans (l2.trans (m2.trans (o2.trans p2)))
          obtain ⟨-, -, s3, -⟩ := p3.sort
          by_cases z : σT9.1 2 = 0
          · obtain ⟨w, w1, w2⟩ := p4.2.2.2.2.2.1
            obtain ⟨σG10, x1, x2, x3⟩ := sw2 w1 4991 8 0 σG9 (by decide) (fun i j hi hj => by rw [mx_0]; exact (w2 i j hi hj).1)
            obtain ⟨σ10, y1, y2, y3, y4⟩ := lf2 w1 4991 8 0 (setF (setF σ9 7 1) 9 0) (by decide) (fun i j hi hj => by rw [mx_0]; exact (w2 i j hi hj).2)
            have hcp := copy225 σ10 4852 147 0 (by decide)
            rw [cpy_0, setR_same σ10 5 _ rfl] at hcp
            have hF := p3.2.2.2
            obtain ⟨q1, q2⟩ := hF
            have g5 : ∀ j, j < 147 → (setR σ10 5 (va_cpy (σ10.2 6) (σ10.2 5) 0 0 147)).2 5 j = σ10.2 6 j := fun j hj => by
              rw [setR_get]
              have := cpy_in (σ10.2 6) (σ10.2 5) (sp := 0) (dp := 0) hj
              rw [Nat.zero_add] at this
              exact this
            have hR : RReal (k + 1) 1 (σG10.1 5) (σG10.1 6) (σG10.1 7) (σG10.2 0) (σG10.2 1) (σG10.2 2) (σG10.2 3) ((setR σ10 5 (va_cpy (σ10.2 6) (σ10.2 5) 0 0 147)).2 5) := RReal.read p4 w1 x2 x3 (fun i j hi hj => by rw [g5 _ (by omega)]; exact y2 i j hi hj) (fun j hj hn => by rw [g5 j hj, y4 j hn]; rfl)
            have hFf : ∀ i, i ≠ 0 → i ≠ 7 → i ≠ 9 → i ≠ 11 → i ≠ 13 → i ≠ 14 → i ≠ 15 → i ≠ 16 → i ≠ 17 → i ≠ 18 → i ≠ 19 → (setR σ10 5 (va_cpy (σ10.2 6) (σ10.2 5) 0 0 147)).1 i = σ.1 i := fun i h0 h7 h9 h11 h13 h14 h15 h16 h17 h18 h19 => by
              show σ10.1 i = _
              rw [y3.1]
              exact (va_up_ne _ _ h9).trans ((va_up_ne _ _ h7).trans ((q1 i h14 h15 h16 h17 h18 h19).trans (sb_1 σ m h0 h13 h11 h14 h18)))
            have hA : ∀ i, i ≠ 5 → i ≠ 6 → (setR σ10 5 (va_cpy (σ10.2 6) (σ10.2 5) 0 0 147)).2 i = σ.2 i := fun i h5 h6 => by
              rw [setR_gne σ10 _ h5, y3.2 i h6]
              exact q2 i h6
            have e7 : (setR σ10 5 (va_cpy (σ10.2 6) (σ10.2 5) 0 0 147)).1 7 = 1 := by show σ10.1 7 = 1; rw [y3.1]; rfl
            have e9 : (setR σ10 5 (va_cpy (σ10.2 6) (σ10.2 5) 0 0 147)).1 9 = 0 := by show σ10.1 9 = 0; rw [y3.1]; rfl
            have e11 : (setR σ10 5 (va_cpy (σ10.2 6) (σ10.2 5) 0 0 147)).1 11 = 0 := by
              show σ10.1 11 = 0
              rw [y3.1]
              exact q1 11 (by decide) (by decide) (by decide) (by decide) (by decide) (by decide)
            refine ⟨1, σR9, σT9, setF σG10 4 1, setF σT9 1 0, (setR σ10 5 (va_cpy (σ10.2 6) (σ10.2 5) 0 0 147)).2 5 3, setR σ10 5 (va_cpy (σ10.2 6) (σ10.2 5) 0 0 147), hL1 _ ?_, rfl, ?_, Or.inr ⟨one_ne_zero32, ?_, _, rfl, ?_⟩⟩
            · rw [if_pos z, FL_shortenWays, show FL_shortenWays_2 fuelN σG9 0 = _ from x1]
              rfl
            · rw [hM1, if_pos (s3.mp z), FM_realm_186, p3.2.2.1, if_pos (by decide)]
              simp only [nm]
              rw [FM_layFar, show FM_layFar_2 fuelN (setF (setF σ9 7 1) 9 0) 0 = _ from y1, Option.bind_some]
              exact hcp
            · show _ = σG10.1 7
              rw [← hR.2.1.2.2.1]
            · obtain ⟨⟨h1, h2⟩, h3, -, -, -, h7, h8⟩ := Rel.mono _ _ _ _ _ _ _ _ _ _ _ _ h
              refine ⟨⟨?_, ?_⟩, ?_, ?_, ⟨e7.symm, hR⟩, ?_, ?_, ?_⟩
              · rw [hFf 1 (by decide) (by decide) (by decide) (by decide) (by decide) (by decide) (by decide) (by decide) (by decide) (by decide) (by decide)]; exact h1
              · rw [hFf 12 (by decide) (by decide) (by decide) (by decide) (by decide) (by decide) (by decide) (by decide) (by decide) (by decide) (by decide)]; exact h2
              · rw [hA 2 (by decide) (by decide), hA 3 (by decide) (by decide), hA 4 (by decide) (by decide)]; exact h3
              · rw [e11]
                exact ⟨rfl, by decide, by decide, fun j hj hl => absurd hl (nI_pos (by omega))⟩
              · exact ⟨0, 0, by decide, by decide, rfl, e9, rfl, Or.inl rfl, fun i hi => absurd hi (Nat.not_lt_zero i)⟩
              · rw [hA 22 (by decide) (by decide), hA 23 (by decide) (by decide)]
                intro i hi
                obtain ⟨w3, w4⟩ := h7 i hi
                exact ⟨w3, w4.imp id (fun q => ⟨q.1, rfl, q.2.2⟩)⟩
              · rw [hFf 25 (by decide) (by decide) (by decide) (by decide) (by decide) (by decide) (by decide) (by decide) (by decide) (by decide) (by decide), hA 24 (by decide) (by decide)]; exact h8
          · obtain ⟨σR10, σ10, x1, x2, x3, -, -⟩ := p3.fail σR9 (f := 1) (by decide) (by decide)
            refine fail σR10 σT9 σG9 σ10 (hL1 _ ?_) ?_ x3
            · rw [if_neg z, show FR_faulty σR9 σT9 1 = _ from x2, bd2_s, gd_t (Or.inl rfl)]
            · rw [hM1, if_neg (fun q => z (s3.mpr q)), show FM_bad σ9 1 = _ from x1, Option.bind_some, x3.e186]
        · refine fail σR9 σT9 σG9 σ9 (hL0 _ ?_) (hM.trans (l2.trans (m2.trans (o2.trans p2)))) p3
          rw [l1, bd4_s, if_neg one_ne_zero32, show FR_readRoads σR6 σT6 σG6 = _ from m1, bd4_s, if_neg one_ne_zero32, show FR_readHolders σR7 σT7 σG7 = _ from o1, bd4_s, if_neg one_ne_zero32, show FR_readCoins σR8 σT8 σG8 = _ from p1]
          rfl
      · refine fail σR8 σT8 σG8 σ8 (hL0 _ ?_) (hM.trans (l2.trans (m2.trans o2))) o3
        rw [l1, bd4_s, if_neg one_ne_zero32, show FR_readRoads σR6 σT6 σG6 = _ from m1, bd4_s, if_neg one_ne_zero32, show FR_readHolders σR7 σT7 σG7 = _ from o1]
        rfl
    · refine fail σR7 σT7 σG7 σ7 (hL0 _ ?_) (hM.trans (l2.trans m2)) m3
      rw [l1, bd4_s, if_neg one_ne_zero32, show FR_readRoads σR6 σT6 σG6 = _ from m1]
      rfl
  · refine fail σR6 σT6 σG6 σ6 (hL0 _ ?_) (hM.trans (l2.trans (l3.e112 4999))) l3
    rw [l1]
    rfl
