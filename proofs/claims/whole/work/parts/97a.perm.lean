/-! PURE: tour: orders one behind another -/
def cnt6 (b : Nat) : Nat → Nat
  | 0 => 0
  | i + 1 => cnt6 b i + b / 2 ^ i % 2
def PLf (f : Nat → List (List Nat)) (b : Nat) : Nat → Nat → List (List Nat)
  | 0, _ => []
  | c + 1, h => (if b / 2 ^ h % 2 = 1 then (f (b - 2 ^ h)).map (fun q => h :: q) else []) ++ PLf f b c (h + 1)
def PLs : Nat → Nat → List (List Nat)
  | 0, _ => [[]]
  | d + 1, b => PLf (PLs d) b 6 0
def lb6 (b : Nat) : Nat → List Nat
  | 0 => []
  | i + 1 => lb6 b i ++ (if b / 2 ^ i % 2 = 1 then [i] else [])
def trOf (p : List Nat) : MS := setR s0 20 (fun j => nI (p.getD j 0))
def eqT (σ : MS) : Nat → List Nat → Bool
  | _, [] => true
  | i, x :: q => decide (σ.2 20 i = nI x) && eqT σ (i + 1) q
def nxOK (p q : List Nat) : Bool := match FM_nextOrder (trOf p) (nI p.length) with
  | some x => decide (x.1 = 1) && eqT x.2 0 q
  | none => false
def nxEnd (p : List Nat) : Bool := match FM_nextOrder (trOf p) (nI p.length) with
  | some x => decide (x.1 = 0)
  | none => false
def chain : List (List Nat) → Bool
  | [] => false
  | p :: r => match r with
    | [] => nxEnd p
    | q :: _ => nxOK p q && chain r
def PLok (n b : Nat) (L : List (List Nat)) : Bool := L.all (fun p => decide (p.length = n) && p.all (fun x => decide (x < 6) && decide (b / 2 ^ x % 2 = 1))) && chain L && decide (L.head? = some (lb6 b 6)) && decide (L.length ≤ 720)
set_option maxRecDepth 100000 in
theorem PL_all : ∀ b, b < 64 → 1 ≤ b → PLok (cnt6 b 6) b (PLs (cnt6 b 6) b) = true := by decide +kernel
theorem eqT_spec {σ : MS} : ∀ (q : List Nat) (i : Nat), eqT σ i q = true → ∀ j, j < q.length → σ.2 20 (i + j) = nI (q.getD j 0) := by
  intro q
  induction q with
  | nil => intro i _ j hj; exact absurd hj (Nat.not_lt_zero j)
  | cons x q ih =>
    intro i h j hj
    have h : (decide (σ.2 20 i = nI x) && eqT σ (i + 1) q) = true := h
    rw [Bool.and_eq_true] at h
    cases j with
    | zero => exact of_decide_eq_true h.1
    | succ j =>
      have := ih (i + 1) h.2 j (by simpa using hj)
      rw [show i + (j + 1) = i + 1 + j from by omega, this]
      rfl
/-! what next() of orders needs: the first n alone -/
def Ag (n : Nat) (σ ρ : MS) : Prop := ∀ j, j < n → σ.2 20 j = ρ.2 20 j
def S20 (σ σ' : MS) : Prop := σ'.1 = σ.1 ∧ ∀ i, i ≠ 20 → σ'.2 i = σ.2 i
theorem S20.rf (σ : MS) : S20 σ σ := ⟨rfl, fun _ _ => rfl⟩
theorem S20.tr {a b c : MS} (h : S20 a b) (h' : S20 b c) : S20 a c := ⟨h'.1.trans h.1, fun i hi => (h'.2 i hi).trans (h.2 i hi)⟩
theorem S20.st (σ : MS) (i : Nat) (x : Int32) : S20 σ (setA σ 20 i x) := ⟨rfl, fun _ hi => va_up_ne _ _ hi⟩
theorem A20 (σ : MS) (i : Nat) (x : Int32) : (setA σ 20 i x).2 20 = upd (σ.2 20) i x := va_up_self σ.2 20 (upd (σ.2 20) i x)
theorem Ag.st {n : Nat} {σ ρ : MS} (h : Ag n σ ρ) (i : Nat) {x y : Int32} (e : x = y) : Ag n (setA σ 20 i x) (setA ρ 20 i y) := by
  intro j hj
  rw [A20, A20, e]
  unfold upd
  by_cases hi : j = i
  · rw [if_pos hi, if_pos hi]
  · rw [if_neg hi, if_neg hi]; exact h j hj
theorem no100 {n : Nat} : ∀ (f : Nat) (σ ρ : MS) (l5 l6 r : Int32) (ρ' : MS), Ag n σ ρ → l5.toInt < n → FM_nextOrder_100 f ρ l5 l6 = some (r, ρ') → ∃ σ', FM_nextOrder_100 f σ l5 l6 = some (r, σ') ∧ Ag n σ' ρ' ∧ S20 σ σ' := by
  intro f
  induction f with
  | zero => intro σ ρ l5 l6 r ρ' hA hl h; exact absurd h (by simp [FM_nextOrder_100])
  | succ f ih =>
    intro σ ρ l5 l6 r ρ' hA hl h
    rw [FM_nextOrder_100] at h ⊢
    by_cases hc : l5 ≤ l6
    · rw [if_pos hc] at h ⊢
      cases h
      exact ⟨σ, rfl, hA, S20.rf σ⟩
    · rw [if_neg hc] at h ⊢
      simp only [nm] at h ⊢
      obtain ⟨g1, h⟩ := gd_some h
      obtain ⟨g2, h⟩ := gd_some h
      obtain ⟨g3, h⟩ := gd_some h
      obtain ⟨g4, h⟩ := gd_some h
      rw [gd_t g1, gd_t g2, gd_t g3, gd_t g4]
      obtain ⟨a, ha, ea⟩ := vp_in_of (x := l6) (n := 6) g1 (by decide)
      obtain ⟨c, hc6, ec⟩ := vp_in_of (x := l5) (n := 6) g2 (by decide)
      subst ea ec
      rw [nI_toInt (by omega)] at hl
      have hac : a < c := by
        rcases Nat.lt_or_ge a c with z | z
        · exact z
        · exact absurd (nI_le z (by omega)) hc
      rw [nI_clamp (by omega), nI_clamp (by omega)] at h ⊢
      obtain ⟨c', rfl⟩ : ∃ c', c = c' + 1 := ⟨c - 1, by omega⟩
      rw [pk_m1] at h ⊢
      obtain ⟨σ', i1, i2, i3⟩ := ih (setA (setA σ 20 a (σ.2 20 (c' + 1))) 20 (c' + 1) (σ.2 20 a)) _ (nI c') (nI a + 1) r ρ' ((hA.st a (hA (c' + 1) (by omega))).st (c' + 1) (hA a (by omega))) (by rw [nI_toInt (by omega)]; omega) h
      exact ⟨σ', i1, i2, ((S20.st σ _ _).tr (S20.st _ _ _)).tr i3⟩
theorem no41 {n : Nat} (hn : n ≤ 6) (hn1 : 1 ≤ n) : ∀ (f : Nat) (σ ρ : MS) (l2 l3 r : Int32) (ρ' : MS), Ag n σ ρ → l2.toInt < n → l3.toInt < n → FM_nextOrder_41 f ρ (nI n) l2 l3 = some (r, ρ') → ∃ σ', FM_nextOrder_41 f σ (nI n) l2 l3 = some (r, σ') ∧ Ag n σ' ρ' ∧ S20 σ σ' := by
  intro f
  induction f with
  | zero => intro σ ρ l2 l3 r ρ' hA hl hl3 h; exact absurd h (by simp [FM_nextOrder_41])
  | succ f ih =>
    intro σ ρ l2 l3 r ρ' hA hl hl3 h
    rw [FM_nextOrder_41] at h ⊢
    simp only [nm] at h ⊢
    obtain ⟨g1, h⟩ := gd_some h
    obtain ⟨g2, h⟩ := gd_some h
    rw [gd_t g1, gd_t g2]
    obtain ⟨a, ha, ea⟩ := vp_in_of (x := l3) (n := 6) g1 (by decide)
    obtain ⟨c, hc6, ec⟩ := vp_in_of (x := l2) (n := 6) g2 (by decide)
    subst ea ec
    rw [nI_toInt (by omega)] at hl hl3
    have ha' : a < n := by omega
    have hc' : c < n := by omega
    rw [nI_clamp (n := c) (by omega), nI_clamp (n := a) (by omega)] at h ⊢
    rw [hA a ha', hA c hc']
    by_cases hc : ρ.2 20 c ≤ ρ.2 20 a
    · rw [if_pos hc] at h ⊢
      obtain ⟨g3, h⟩ := gd_some h
      obtain ⟨g4, h⟩ := gd_some h
      obtain ⟨g5, h⟩ := gd_some h
      obtain ⟨g6, h⟩ := gd_some h
      rw [gd_t g3, gd_t g4, gd_t g5, gd_t g6]
      obtain ⟨n', rfl⟩ : ∃ n', n = n' + 1 := ⟨n - 1, by omega⟩
      rw [nI_pred] at h ⊢
      obtain ⟨σ', i1, i2, i3⟩ := no100 (n := n' + 1) fuelN (setA (setA σ 20 c (ρ.2 20 a)) 20 a (ρ.2 20 c)) _ (nI n') (nI c + 1) r ρ' ((hA.st c rfl).st a rfl) (by rw [nI_toInt (by omega)]; omega) h
      exact ⟨σ', i1, i2, ((S20.st σ _ _).tr (S20.st _ _ _)).tr i3⟩
    · rw [if_neg hc] at h ⊢
      refine ih σ ρ (nI c) (nI a + (-1)) r ρ' hA (by rw [nI_toInt (by omega)]; omega) ?_ h
      cases a with
      | zero => show (-1 : Int32).toInt < _; rw [show (-1 : Int32).toInt = -1 from by decide]; omega
      | succ a => rw [pk_m1, nI_toInt (by omega)]; omega
theorem no31 {n : Nat} (hn : n ≤ 6) (hn1 : 1 ≤ n) (σ ρ : MS) (l2 r : Int32) (ρ' : MS) (hA : Ag n σ ρ) (hl : l2.toInt < n) (h : FM_nextOrder_31 ρ (nI n) l2 = some (r, ρ')) : ∃ σ', FM_nextOrder_31 σ (nI n) l2 = some (r, σ') ∧ Ag n σ' ρ' ∧ S20 σ σ' := by
  unfold FM_nextOrder_31 at h ⊢
  by_cases hc : 0 ≤ l2
  · rw [if_pos hc] at h ⊢
    simp only [nm] at h ⊢
    refine no41 hn hn1 fuelN σ ρ l2 _ r ρ' hA hl ?_ h
    obtain ⟨n', rfl⟩ : ∃ n', n = n' + 1 := ⟨n - 1, by omega⟩
    rw [nI_pred, nI_toInt (by omega)]
    omega
  · rw [if_neg hc] at h ⊢
    cases h
    exact ⟨σ, rfl, hA, S20.rf σ⟩
theorem no4 {n : Nat} (hn : n ≤ 6) (hn1 : 1 ≤ n) : ∀ (f : Nat) (σ ρ : MS) (l2 r : Int32) (ρ' : MS), Ag n σ ρ → l2.toInt + 1 < n → FM_nextOrder_4 f ρ (nI n) l2 = some (r, ρ') → ∃ σ', FM_nextOrder_4 f σ (nI n) l2 = some (r, σ') ∧ Ag n σ' ρ' ∧ S20 σ σ' := by
  intro f
  induction f with
  | zero => intro σ ρ l2 r ρ' hA hl h; exact absurd h (by simp [FM_nextOrder_4])
  | succ f ih =>
    intro σ ρ l2 r ρ' hA hl h
    rw [FM_nextOrder_4] at h ⊢
    by_cases hc : l2 < 0
    · rw [if_pos hc] at h ⊢
      exact no31 hn hn1 σ ρ l2 r ρ' hA (by omega) h
    · rw [if_neg hc] at h ⊢
      simp only [nm] at h ⊢
      obtain ⟨g1, h⟩ := gd_some h
      obtain ⟨g2, h⟩ := gd_some h
      rw [gd_t g1, gd_t g2]
      obtain ⟨a, ha, ea⟩ := vp_in_of (x := l2) (n := 6) g1 (by decide)
      subst ea
      rw [nI_toInt (by omega)] at hl
      rw [nI_1, nI_clamp (n := a) (by omega), nI_clamp (n := a + 1) (by omega)] at h ⊢
      rw [hA a (by omega), hA (a + 1) (by omega)]
      by_cases hc2 : ρ.2 20 a ≤ ρ.2 20 (a + 1)
      · rw [if_pos hc2] at h ⊢
        exact no31 hn hn1 σ ρ (nI a) r ρ' hA (by rw [nI_toInt (by omega)]; omega) h
      · rw [if_neg hc2] at h ⊢
        refine ih σ ρ (nI a + (-1)) r ρ' hA ?_ h
        cases a with
        | zero => show (-1 : Int32).toInt + 1 < _; rw [show (-1 : Int32).toInt = -1 from by decide]; omega
        | succ a => rw [pk_m1, nI_toInt (by omega)]; omega
theorem no_loc {n : Nat} (hn : n ≤ 6) (hn1 : 1 ≤ n) (σ ρ : MS) (r : Int32) (ρ' : MS) (hA : Ag n σ ρ) (h : FM_nextOrder ρ (nI n) = some (r, ρ')) : ∃ σ', FM_nextOrder σ (nI n) = some (r, σ') ∧ Ag n σ' ρ' ∧ S20 σ σ' := by
  unfold FM_nextOrder at h ⊢
  simp only [nm] at h ⊢
  refine no4 hn hn1 fuelN σ ρ _ r ρ' hA ?_ h
  rw [show (nI n - 2 : Int32).toInt = (n : Int) - (2 : Nat) from pk_sub_toInt (a := n) (b := 2) (by omega) (by decide)]
  omega
def Tr (σ : MS) (p : List Nat) : Prop := ∀ j, j < p.length → σ.2 20 j = nI (p.getD j 0)
theorem Tr.ag {σ : MS} {p : List Nat} (h : Tr σ p) : Ag p.length σ (trOf p) := by
  intro j hj
  rw [h j hj]
  show _ = (setR s0 20 (fun j => nI (p.getD j 0))).2 20 j
  rw [setR_get]
theorem nx_some {σ : MS} {p q : List Nat} (hn : p.length ≤ 6) (hn1 : 1 ≤ p.length) (hq : q.length = p.length) (hT : Tr σ p) (h : nxOK p q = true) : ∃ σ', FM_nextOrder σ (nI p.length) = some (1, σ') ∧ Tr σ' q ∧ S20 σ σ' := by
  unfold nxOK at h
  cases e : FM_nextOrder (trOf p) (nI p.length) with
  | none => rw [e] at h; exact absurd (show false = true from h) (by decide)
  | some x =>
    obtain ⟨r, ρ'⟩ := x
    rw [e] at h
    simp only [Bool.and_eq_true, decide_eq_true_eq] at h
    obtain ⟨rfl, h2⟩ := h
    obtain ⟨σ', i1, i2, i3⟩ := no_loc hn hn1 σ (trOf p) 1 ρ' hT.ag e
    refine ⟨σ', i1, fun j hj => ?_, i3⟩
    rw [i2 j (by omega)]
    have := eqT_spec q 0 h2 j hj
    rwa [Nat.zero_add] at this
theorem nx_none {σ : MS} {p : List Nat} (hn : p.length ≤ 6) (hn1 : 1 ≤ p.length) (hT : Tr σ p) (h : nxEnd p = true) : ∃ σ', FM_nextOrder σ (nI p.length) = some (0, σ') ∧ S20 σ σ' := by
  unfold nxEnd at h
  cases e : FM_nextOrder (trOf p) (nI p.length) with
  | none => rw [e] at h; exact absurd (show false = true from h) (by decide)
  | some x =>
    obtain ⟨r, ρ'⟩ := x
    rw [e] at h
    simp only [decide_eq_true_eq] at h
    subst h
    obtain ⟨σ', i1, i2, i3⟩ := no_loc hn hn1 σ (trOf p) 0 ρ' hT.ag e
    exact ⟨σ', i1, i3⟩
