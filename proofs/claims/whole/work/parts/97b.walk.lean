/-! PURE: tour: the days of an order; both sides keep the first of the shortest -/
def walk (w : Nat → Nat → Option Nat) (t : Nat → Nat) : Nat → Nat → List Nat → Option Nat
  | z, g, [] => (w z 0).map (fun x => g + x)
  | z, g, h :: q => match w z (t h) with
    | none => none
    | some x => walk w t (t h) (g + x) q
def rwk (w : Nat → Nat → Option Nat) (t : Nat → Nat) : Nat → Nat → List Nat → Nat
  | z, g, [] => g + (w z 0).getD 10000
  | z, g, h :: q => rwk w t (t h) (g + (w z (t h)).getD 10000) q
set_option maxRecDepth 100000 in
theorem ar1 {c g x n : Nat} (h : c < g + x + 1000 * (n + 1)) (hx : x < 1000) : c < g + 1000 * (n + 1 + 1) := by omega
set_option maxRecDepth 100000 in
theorem ar2 {c n : Nat} (h : c < 0 + 1000 * (n + 1)) (hn : n ≤ 6) : c < 10000 := by omega
section WK
variable {w : Nat → Nat → Option Nat} {t : Nat → Nat}
theorem rwk_ge : ∀ (q : List Nat) (z g : Nat), g ≤ rwk w t z g q := by
  intro q
  induction q with
  | nil => intro z g; exact Nat.le_add_right _ _
  | cons h q ih => intro z g; exact Nat.le_trans (Nat.le_add_right _ _) (ih _ _)
theorem getD_le (hw : ∀ a b x, w a b = some x → x < 1000) (a b : Nat) : (w a b).getD 10000 ≤ 10000 := by
  cases e : w a b with
  | none => exact Nat.le_refl _
  | some x => have := hw a b x e; show x ≤ 10000; omega
theorem rwk_le (hw : ∀ a b x, w a b = some x → x < 1000) : ∀ (q : List Nat) (z g : Nat), rwk w t z g q ≤ g + 10000 * (q.length + 1) := by
  intro q
  induction q with
  | nil =>
    intro z g
    have := getD_le hw z 0
    show g + (w z 0).getD 10000 ≤ g + 10000 * (0 + 1)
    omega
  | cons h q ih =>
    intro z g
    have h1 := getD_le hw z (t h)
    have h2 := ih (t h) (g + (w z (t h)).getD 10000)
    show rwk w t (t h) (g + (w z (t h)).getD 10000) q ≤ g + 10000 * (q.length + 1 + 1)
    refine Nat.le_trans h2 ?_
    clear h2
    generalize (w z (t h)).getD 10000 = X at h1
    omega
theorem walk_some (hw : ∀ a b x, w a b = some x → x < 1000) : ∀ (q : List Nat) (z g c : Nat), walk w t z g q = some c → rwk w t z g q = c ∧ c < g + 1000 * (q.length + 1) := by
  intro q
  induction q with
  | nil =>
    intro z g c h
    rw [walk] at h
    rw [rwk]
    cases e : w z 0 with
    | none => rw [e] at h; cases h
    | some x =>
      rw [e] at h
      cases h
      have := hw z 0 x e
      refine ⟨rfl, ?_⟩
      show g + x < g + 1000 * (0 + 1)
      omega
  | cons h q ih =>
    intro z g c hc
    rw [walk] at hc
    rw [rwk]
    cases e : w z (t h) with
    | none => rw [e] at hc; cases hc
    | some x =>
      rw [e] at hc
      have h1 := hw z (t h) x e
      obtain ⟨i1, i2⟩ := ih (t h) (g + x) c hc
      exact ⟨i1, ar1 i2 h1⟩
theorem walk_none : ∀ (q : List Nat) (z g : Nat), walk w t z g q = none → 10000 ≤ rwk w t z g q := by
  intro q
  induction q with
  | nil =>
    intro z g h
    rw [walk] at h
    rw [rwk]
    cases e : w z 0 with
    | none => show 10000 ≤ g + 10000; omega
    | some x => rw [e] at h; cases h
  | cons h q ih =>
    intro z g hc
    rw [walk] at hc
    rw [rwk]
    cases e : w z (t h) with
    | none => exact Nat.le_trans (by show 10000 ≤ g + 10000; omega) (rwk_ge q _ _)
    | some x => rw [e] at hc; exact ih _ _ hc
end WK
/-- the land, as both sides have it -/
def TD (w : Nat → Nat → Option Nat) (t : Nat → Nat) (H : Nat) (σL σ : MS) : Prop :=
  (∀ a b x, w a b = some x → x < 1000) ∧ H ≤ 6 ∧ σL.1 6 = nI H ∧ (∀ a b, a < 8 → b < 8 → FL_distance σL (nI a) (nI b) = some (match w a b with | some x => nI x | none => -1000000)) ∧ (∀ a b, a < 8 → b < 8 → σ.2 5 (5 + 8 * a + b) = nI ((w a b).getD 10000)) ∧ (∀ h, h < H → t h < 8 ∧ σL.2 1 h = nI (t h) ∧ σ.2 5 (69 + h) = nI (t h))
theorem TD.cg {w : Nat → Nat → Option Nat} {t : Nat → Nat} {H : Nat} {σL σ σ' : MS} (h : TD w t H σL σ) (e : σ'.2 5 = σ.2 5) : TD w t H σL σ' := by
  unfold TD at h ⊢
  rw [e]
  exact h
theorem td_of {k : Nat} {σL σ : MS} (h : RReal k (σL.1 4) (σL.1 5) (σL.1 6) (σL.1 7) (σL.2 0) (σL.2 1) (σL.2 2) (σL.2 3) (σ.2 5)) (h1 : σL.1 4 = 1) : ∃ w t H, TD w t H σL σ := by
  obtain ⟨-, -, ⟨-, -, b1, b2, -⟩, -, hw, ht, -⟩ := h
  obtain ⟨H, hH, eH⟩ := nI_of2 (x := σL.1 6) (M := 6) (n := 6) (by decide) (Int32.not_lt.mpr b1) b2
  have hw := fun a b ha hb => (hw h1 a b ha hb).1
  refine ⟨fun a b => if a < 8 ∧ b < 8 ∧ σL.2 0 (8 * a + b) < 1000000 then some (σL.2 0 (8 * a + b)).toNatClampNeg else none, fun h => (σL.2 1 h).toNatClampNeg, H, ?_, hH, eH, ?_, ?_, ?_⟩
  · intro a b x e
    dsimp only at e
    split at e
    · rename_i z
      obtain ⟨z1, z2, z3⟩ := z
      obtain ⟨y1, y2, y3⟩ := (hw a b z1 z2).low z3
      cases e
      obtain ⟨n, hn, en⟩ := nI_of (x := σL.2 0 (8 * a + b)) (Int32.not_lt.mpr (by rw [Int32.le_iff_toInt_le]; exact y2))
      rw [en] at y3 ⊢
      rw [nI_toInt hn] at y3
      rw [nI_clamp hn]
      omega
    · cases e
  · intro a b ha hb
    rw [p_dist σL ha hb]
    by_cases z : σL.2 0 (8 * a + b) < 1000000
    · obtain ⟨y1, y2, y3⟩ := (hw a b ha hb).low z
      obtain ⟨n, hn, en⟩ := nI_of (x := σL.2 0 (8 * a + b)) (Int32.not_lt.mpr (by rw [Int32.le_iff_toInt_le]; exact y2))
      rw [if_pos z]
      simp only [ha, hb, z, and_self, if_true]
      rw [en, nI_clamp hn]
    · rw [if_neg z]
      simp only [z, and_false, if_false]
  · intro a b ha hb
    by_cases z : σL.2 0 (8 * a + b) < 1000000
    · obtain ⟨y1, y2, y3⟩ := (hw a b ha hb).low z
      obtain ⟨n, hn, en⟩ := nI_of (x := σL.2 0 (8 * a + b)) (Int32.not_lt.mpr (by rw [Int32.le_iff_toInt_le]; exact y2))
      simp only [ha, hb, z, and_self, if_true, Option.getD_some]
      rw [← y1, en, nI_clamp hn]
    · simp only [z, and_false, if_false, Option.getD_none]
      rcases hw a b ha hb with ⟨-, e⟩ | ⟨-, e1, e2⟩
      · exact e
      · exfalso
        apply z
        rw [Int32.lt_iff_toInt_lt] at e2 ⊢
        have e3 : (1000 : Int32).toInt = 1000 := by decide
        have e4 : (1000000 : Int32).toInt = 1000000 := by decide
        omega
  · intro i hi
    obtain ⟨e1, e2, e3⟩ := ht i (by omega) (by rw [eH]; exact nI_lt hi (by omega))
    obtain ⟨n, hn, en⟩ := nI_of2 (x := σL.2 1 i) (M := 7) (n := 7) (by decide) (fun z => by
      rw [Int32.le_iff_toInt_le] at e2
      rw [Int32.lt_iff_toInt_lt] at z
      have q1 : (1 : Int32).toInt = 1 := by decide
      have q2 : (0 : Int32).toInt = 0 := by decide
      omega) e3
    rw [← e1, en]
    dsimp only
    rw [en, nI_clamp (by omega)]
    exact ⟨by omega, rfl, rfl⟩
theorem dway_loop {w : Nat → Nat → Option Nat} {t : Nat → Nat} {H : Nat} {σL σ : MS} (T : TD w t H σL σ) {n : Nat} (hn : n ≤ 6) (m : Nat) : ∀ (q : List Nat) (k z g : Nat), k + q.length = n → z < 8 → (∀ x ∈ q, x < H) → g ≤ 10000 * k → (∀ j, j < q.length → σ.2 20 (k + j) = nI (q.getD j 0)) → FM_daysOf_7 (m + q.length + 1) σ (nI n) (nI z) (nI g) (nI k) = some (nI (min 10000 (rwk w t z g q))) := by
  obtain ⟨hw, hH, -, -, hf, ht⟩ := T
  intro q
  induction q with
  | nil =>
    intro k z g hk hz _ hg _
    have hk : k = n := hk
    have h1 := getD_le hw z 0
    show FM_daysOf_7 (m + 1) σ (nI n) (nI z) (nI g) (nI k) = _
    rw [FM_daysOf_7, if_pos (nI_le (by omega) (by omega)), show FM_farOf σ (nI z) 0 = _ from p_farOf σ (a := z) (b := 0) hz (by decide), Option.bind_some, hf z 0 hz (by decide)]
    simp only [nm]
    rw [nI_add, rwk]
    by_cases hc : 10000 ≤ g + (w z 0).getD 10000
    · rw [if_pos (show (10000 : Int32) ≤ _ from nI_le (a := 10000) hc (by omega)), Nat.min_eq_left hc]
      rfl
    · rw [if_neg (show ¬ (10000 : Int32) ≤ _ from nI_ge (b := 10000) (by omega) (by decide)), Nat.min_eq_right (by omega)]
  | cons h q ih =>
    intro k z g hk hz hx hg hq
    have hk : k + (q.length + 1) = n := hk
    have hh : h < H := hx h List.mem_cons_self
    obtain ⟨t1, -, t3⟩ := ht h hh
    have h1 := getD_le hw z (t h)
    have e0 : σ.2 20 k = nI h := hq 0 (Nat.succ_pos _)
    have e1 : (69 + nI h : Int32) = nI (69 + h) := nI_add 69 h
    show FM_daysOf_7 ((m + q.length + 1) + 1) σ (nI n) (nI z) (nI g) (nI k) = _
    rw [FM_daysOf_7, if_neg (nI_ge (by omega) (by omega))]
    simp only [nm]
    rw [gd_nI (j := k) (N := 6) (by omega) (by decide), nI_clamp (n := k) (by omega), e0, e1, gd_nI (j := 69 + h) (N := 147) (by omega) (by decide), nI_clamp (n := 69 + h) (by omega), t3, p_farOf σ hz t1, Option.bind_some, gd_cl (j := k) (N := 6) (by omega) (by decide), gd_cl (j := 69 + h) (N := 147) (by omega) (by decide), hf z (t h) hz t1, nI_add, nI_1, rwk]
    refine ih (k + 1) (t h) _ (by omega) t1 (fun x hm => hx x (List.mem_cons_of_mem _ hm)) (by omega) (fun j hj => ?_)
    have := hq (j + 1) (by show j + 1 < q.length + 1; omega)
    rw [show k + 1 + j = k + (j + 1) from by omega, this]
    rfl
def stp (acc : Option (Nat × List Nat)) (c : Option Nat) (p : List Nat) : Option (Nat × List Nat) :=
  match c with
  | none => acc
  | some x => match acc with
    | none => some (x, p)
    | some a => if x < a.1 then some (x, p) else some a
def fd (w : Nat → Nat → Option Nat) (t : Nat → Nat) (z g : Nat) (pre : List Nat) (acc : Option (Nat × List Nat)) (L : List (List Nat)) : Option (Nat × List Nat) := L.foldl (fun a q => stp a (walk w t z g q) (pre ++ q)) acc
def cst (acc : Option (Nat × List Nat)) : Nat := match acc with
  | none => 10000
  | some a => a.1
def AccM (n : Nat) (σ : MS) (acc : Option (Nat × List Nat)) : Prop := ∀ a, acc = some a → a.1 < 10000 ∧ ∀ j, j < n → σ.2 21 j = nI (a.2.getD j 0)
def S21 (σ σ' : MS) : Prop := σ'.1 = σ.1 ∧ ∀ i, i ≠ 20 → i ≠ 21 → σ'.2 i = σ.2 i
theorem S21.rf (σ : MS) : S21 σ σ := ⟨rfl, fun _ _ _ => rfl⟩
theorem S21.tr {a b c : MS} (h : S21 a b) (h' : S21 b c) : S21 a c := ⟨h'.1.trans h.1, fun i hi hj => (h'.2 i hi hj).trans (h.2 i hi hj)⟩
theorem S20.s21 {a b : MS} (h : S20 a b) : S21 a b := ⟨h.1, fun i hi _ => h.2 i hi⟩
theorem S21.R (σ : MS) (f : Nat → Int32) : S21 σ (setR σ 21 f) := ⟨rfl, fun _ _ hi => va_up_ne _ _ hi⟩
theorem cp66 {n : Nat} (hn : n ≤ 6) (ag : MS → Int32 → Int32 → Int32 → Option (Int32 × MS)) (σ : MS) (l3 : Int32) (m : Nat) : ∀ (d c : Nat), c + d = n → FM_layTour_66 ag (m + d + 1) (setR σ 21 (va_cpy (σ.2 20) (σ.2 21) 0 0 c)) (nI n) l3 (nI c) = FM_layTour_92 ag (setR σ 21 (va_cpy (σ.2 20) (σ.2 21) 0 0 n)) (nI n) l3 := by
  intro d
  induction d with
  | zero =>
    intro c hc
    have hc : c = n := hc
    subst hc
    rw [FM_layTour_66, if_pos (nI_le (Nat.le_refl _) (by omega))]
  | succ d ih =>
    intro c hc
    have e := cpy_step (σ.2 20) (σ.2 21) 0 0 c
    rw [Nat.zero_add] at e
    show FM_layTour_66 ag ((m + d + 1) + 1) _ _ _ _ = _
    rw [FM_layTour_66, if_neg (nI_ge (by omega) (by omega))]
    simp only [nm]
    rw [gd_nI (j := c) (N := 6) (by omega) (by decide), gd_nI (j := c) (N := 6) (by omega) (by decide), nI_clamp (n := c) (by omega), setR_gne σ _ (show 20 ≠ 21 by decide), setA_R, setR_get, setR_setR, e, nI_1]
    exact ih (c + 1) (by omega)
theorem cst_le {n : Nat} {σ : MS} {acc : Option (Nat × List Nat)} (h : AccM n σ acc) : cst acc ≤ 10000 := by
  cases acc with
  | none => exact Nat.le_refl _
  | some a => have := (h a rfl).1; show a.1 ≤ 10000; omega
theorem lay_step {w : Nat → Nat → Option Nat} {t : Nat → Nat} {H : Nat} {σL σ : MS} (T : TD w t H σL σ) {n : Nat} (hn : n ≤ 6) {p : List Nat} (hp : p.length = n) (hx : ∀ x ∈ p, x < H) (hT : Tr σ p) {acc : Option (Nat × List Nat)} (hA : AccM n σ acc) (f : Nat) : ∃ σ1, FM_layTour_42 (f + 1) σ (nI n) (nI (cst acc)) 1 = FM_layTour_92 (FM_layTour_42 f) σ1 (nI n) (nI (cst (stp acc (walk w t 0 0 p) p))) ∧ AccM n σ1 (stp acc (walk w t 0 0 p) p) ∧ Tr σ1 p ∧ S21 σ σ1 := by
  have hD : FM_daysOf σ (nI n) = some (nI (min 10000 (rwk w t 0 0 p))) := by
    have := dway_loop T hn (4999 - n) p 0 0 0 (by omega) (by decide) hx (by omega) (fun j hj => by rw [Nat.zero_add]; exact hT j hj)
    rw [hp, show 4999 - n + n + 1 = fuelN from by show _ = 5000; omega] at this
    exact this
  have hw := T.1
  have hcl := cst_le hA
  rw [FM_layTour_42, if_neg one_ne_zero32, hD, Option.bind_some]
  cases e : walk w t 0 0 p with
  | none =>
    have h1 := walk_none p 0 0 e
    rw [Nat.min_eq_left h1, if_pos (nI_le hcl (by decide))]
    exact ⟨σ, rfl, hA, hT, S21.rf σ⟩
  | some c =>
    obtain ⟨h1, h2⟩ := walk_some hw p 0 0 c e
    have hc : c < 10000 := ar2 h2 (by rw [hp]; exact hn)
    have hc31 : c < 2 ^ 31 := Nat.lt_of_lt_of_le hc (by decide)
    rw [h1, Nat.min_eq_right (Nat.le_of_lt hc)]
    by_cases hle : cst acc ≤ c
    · rw [if_pos (nI_le hle hc31)]
      have es : stp acc (some c) p = acc := by
        cases acc with
        | none => exact absurd hle (Nat.not_le.mpr hc)
        | some a =>
          have hle : a.1 ≤ c := hle
          show (if c < a.1 then _ else _) = _
          rw [if_neg (Nat.not_lt.mpr hle)]
      rw [es]
      exact ⟨σ, rfl, hA, hT, S21.rf σ⟩
    · rw [if_neg (nI_ge (Nat.not_le.mp hle) (Nat.lt_of_le_of_lt hcl (by decide)))]
      have es : stp acc (some c) p = some (c, p) := by
        cases acc with
        | none => rfl
        | some a =>
          have hle : ¬ a.1 ≤ c := hle
          show (if c < a.1 then _ else _) = _
          rw [if_pos (Nat.not_le.mp hle)]
      rw [es]
      have h66 := cp66 hn (FM_layTour_42 f) σ (nI c) (4999 - n) n 0 (by omega)
      rw [show 4999 - n + n + 1 = fuelN from by show _ = 5000; omega, cpy_0, setR_same σ 21 _ rfl] at h66
      refine ⟨setR σ 21 (va_cpy (σ.2 20) (σ.2 21) 0 0 n), h66, ?_, ?_, S21.R σ _⟩
      · intro a ea
        cases ea
        refine ⟨hc, fun j hj => ?_⟩
        rw [setR_get, ← hT j (by omega)]
        have := cpy_in (σ.2 20) (σ.2 21) (sp := 0) (dp := 0) hj
        rw [Nat.zero_add] at this
        exact this
      · intro j hj
        rw [setR_gne σ _ (show 20 ≠ 21 by decide)]
        exact hT j hj
theorem lay_loop {w : Nat → Nat → Option Nat} {t : Nat → Nat} {H : Nat} {σL σ0 : MS} (T : TD w t H σL σ0) {n : Nat} (hn : n ≤ 6) (hn1 : 1 ≤ n) (m : Nat) : ∀ (L : List (List Nat)) (σ : MS) (acc : Option (Nat × List Nat)), chain L = true → (∀ p ∈ L, p.length = n ∧ ∀ x ∈ p, x < H) → (∀ p, L.head? = some p → Tr σ p) → AccM n σ acc → S21 σ0 σ → ∃ σ', FM_layTour_42 (m + L.length + 1) σ (nI n) (nI (cst acc)) 1 = some (nI (cst (fd w t 0 0 [] acc L)), σ') ∧ AccM n σ' (fd w t 0 0 [] acc L) ∧ S21 σ0 σ' := by
  intro L
  induction L with
  | nil => intro σ acc hc; exact absurd hc (by decide)
  | cons p r ih =>
    intro σ acc hc hL hT hA hS
    obtain ⟨hp, hx⟩ := hL p List.mem_cons_self
    obtain ⟨σ1, i1, i2, i3, i4⟩ := lay_step (T.cg (hS.2 5 (by decide) (by decide))) hn hp hx (hT p rfl) hA (m + r.length + 1)
    have ef : fd w t 0 0 [] acc (p :: r) = fd w t 0 0 [] (stp acc (walk w t 0 0 p) p) r := rfl
    rw [ef]
    show ∃ σ', FM_layTour_42 ((m + r.length + 1) + 1) σ (nI n) (nI (cst acc)) 1 = _ ∧ _
    rw [i1, FM_layTour_92]
    cases r with
    | nil =>
      have hc : nxEnd p = true := hc
      obtain ⟨σ2, j1, j2⟩ := nx_none (by omega) (by omega) i3 hc
      rw [hp] at j1
      refine ⟨σ2, ?_, ?_, (hS.tr i4).tr j2.s21⟩
      · rw [j1]
        show FM_layTour_42 (m + 0 + 1) σ2 (nI n) _ 0 = _
        rw [FM_layTour_42, if_pos rfl]
        rfl
      · intro a ea
        obtain ⟨a1, a2⟩ := i2 a ea
        refine ⟨a1, fun j hj => ?_⟩
        rw [j2.2 21 (by decide)]
        exact a2 j hj
    | cons q r' =>
      have hc : (nxOK p q && chain (q :: r')) = true := hc
      rw [Bool.and_eq_true] at hc
      obtain ⟨hq, -⟩ := hL q (List.mem_cons_of_mem _ List.mem_cons_self)
      obtain ⟨σ2, j1, j2, j3⟩ := nx_some (by omega) (by omega) (hq.trans hp.symm) i3 hc.1
      rw [hp] at j1
      have hA2 : AccM n σ2 (stp acc (walk w t 0 0 p) p) := by
        intro a ea
        obtain ⟨a1, a2⟩ := i2 a ea
        refine ⟨a1, fun j hj => ?_⟩
        rw [j3.2 21 (by decide)]
        exact a2 j hj
      obtain ⟨σ3, l1, l2, l3⟩ := ih σ2 _ hc.2 (fun p hp => hL p (List.mem_cons_of_mem _ hp)) (fun p' hp' => by cases hp'; exact j2) hA2 ((hS.tr i4).tr j3.s21)
      refine ⟨σ3, ?_, l2, l3⟩
      rw [j1]
      exact l1
theorem bitv : ∀ b, b < 64 → ∀ h, h < 6 → ((nI b >>> (nI h &&& 31)) &&& 1 : Int32) = nI (b / 2 ^ h % 2) := by decide +kernel
theorem bitx : ∀ b, b < 64 → ∀ h, h < 6 → b / 2 ^ h % 2 = 1 → (nI b &&& ((1 <<< (nI h &&& 31)) ^^^ (-1)) : Int32) = nI (b - 2 ^ h) := by decide +kernel
theorem lb6_len (b : Nat) : ∀ i, (lb6 b i).length = cnt6 b i := by
  intro i
  induction i with
  | zero => rfl
  | succ i ih =>
    show (lb6 b i ++ (if b / 2 ^ i % 2 = 1 then [i] else [])).length = cnt6 b i + b / 2 ^ i % 2
    rw [List.length_append, ih]
    by_cases h : b / 2 ^ i % 2 = 1
    · rw [if_pos h, h]; rfl
    · rw [if_neg h]
      have : b / 2 ^ i % 2 = 0 := by omega
      rw [this]; rfl
theorem cnt6_le (b : Nat) : ∀ i, cnt6 b i ≤ i := by
  intro i
  induction i with
  | zero => exact Nat.le_refl _
  | succ i ih =>
    show cnt6 b i + b / 2 ^ i % 2 ≤ i + 1
    have : b / 2 ^ i % 2 < 2 := Nat.mod_lt _ (by decide)
    omega
theorem getD_app1 (l : List Nat) (x j : Nat) : (l ++ [x]).getD j 0 = if j < l.length then l.getD j 0 else if j = l.length then x else 0 := by
  by_cases h : j < l.length
  · rw [if_pos h]
    simp [List.getD, List.getElem?_append_left h]
  · rw [if_neg h]
    by_cases h2 : j = l.length
    · rw [if_pos h2, h2]
      simp [List.getD]
    · rw [if_neg h2]
      simp [List.getD]
      rw [List.getElem?_eq_none (by simp; omega)]
      rfl
theorem Tr.app {σ : MS} {l : List Nat} (h : Tr σ l) (x : Nat) : Tr (setA σ 20 l.length (nI x)) (l ++ [x]) := by
  intro j hj
  rw [List.length_append] at hj
  have hj : j < l.length + 1 := hj
  rw [getD_app1, A20]
  by_cases h1 : j < l.length
  · rw [if_pos h1, pk_un (by omega)]
    exact h j h1
  · have e : j = l.length := by omega
    rw [if_neg h1, if_pos e, e, pk_us]
theorem lay4_loop {b : Nat} (hb : b < 64) (m : Nat) : ∀ (d i : Nat) (σ : MS), i + d = 6 → Tr σ (lb6 b i) → ∃ σ', FM_layTour_4 (m + d + 1) σ (nI b) (nI (cnt6 b i)) (nI i) = FM_layTour_42 fuelN σ' (nI (cnt6 b 6)) 10000 1 ∧ Tr σ' (lb6 b 6) ∧ S20 σ σ' := by
  intro d
  induction d with
  | zero =>
    intro i σ hi hT
    have hi : i = 6 := hi
    subst hi
    refine ⟨σ, ?_, hT, S20.rf σ⟩
    rw [FM_layTour_4, if_pos (show (6 : Int32) ≤ nI 6 by decide)]
  | succ d ih =>
    intro i σ hi hT
    have hl := cnt6_le b i
    show ∃ σ', FM_layTour_4 ((m + d + 1) + 1) σ _ _ _ = _ ∧ _
    rw [FM_layTour_4, if_neg (show ¬ (6 : Int32) ≤ nI i from nI_ge (b := 6) (by omega) (by decide)), bitv b hb i (by omega)]
    simp only [nm, FM_layTour_29]
    have ec : cnt6 b (i + 1) = cnt6 b i + b / 2 ^ i % 2 := rfl
    have el : lb6 b (i + 1) = lb6 b i ++ (if b / 2 ^ i % 2 = 1 then [i] else []) := rfl
    by_cases h : b / 2 ^ i % 2 = 1
    · rw [h] at ec
      rw [if_pos h] at el
      rw [h, if_pos (show nI 1 = 1 from rfl), gd_nI (j := cnt6 b i) (N := 6) (by omega) (by decide), nI_clamp (n := cnt6 b i) (by omega), nI_1, nI_1, ← ec]
      have hT' := hT.app i
      rw [lb6_len, ← el] at hT'
      obtain ⟨σ', i1, i2, i3⟩ := ih (i + 1) _ (by omega) hT'
      exact ⟨σ', i1, i2, (S20.st σ _ _).tr i3⟩
    · have h0 : b / 2 ^ i % 2 = 0 := by omega
      rw [h0] at ec
      rw [if_neg h] at el
      rw [h0, if_neg (show ¬ nI 0 = 1 by decide), nI_1, ← Nat.add_zero (cnt6 b i), ← ec]
      refine ih (i + 1) σ (by omega) ?_
      rw [el, List.append_nil]
      exact hT
theorem lay_all {w : Nat → Nat → Option Nat} {t : Nat → Nat} {H : Nat} {σL σ : MS} (T : TD w t H σL σ) {b : Nat} (hb : b < 2 ^ H) (h1 : 1 ≤ b) : ∃ σ', FM_layTour σ (nI b) = some (nI (cst (fd w t 0 0 [] none (PLs (cnt6 b 6) b))), σ') ∧ AccM (cnt6 b 6) σ' (fd w t 0 0 [] none (PLs (cnt6 b 6) b)) ∧ S21 σ σ' := by
  have hH := T.2.1
  have hb6 : b < 64 := Nat.lt_of_lt_of_le hb (Nat.pow_le_pow_right (by decide) hH : 2 ^ H ≤ 2 ^ 6)
  have P := PL_all b hb6 h1
  unfold PLok at P
  simp only [Bool.and_eq_true, decide_eq_true_eq, List.all_eq_true] at P
  obtain ⟨⟨⟨p1, p2⟩, p3⟩, p4⟩ := P
  obtain ⟨σ1, i1, i2, i3⟩ := lay4_loop hb6 (4999 - 6) 6 0 σ (by decide) (fun j hj => absurd hj (Nat.not_lt_zero j))
  have hn1 : 1 ≤ cnt6 b 6 := by
    rcases Nat.eq_zero_or_pos (cnt6 b 6) with z | z
    · exfalso
      have : ∀ b, b < 64 → 1 ≤ b → cnt6 b 6 ≠ 0 := by decide +kernel
      exact this b hb6 h1 z
    · exact z
  obtain ⟨σ2, j1, j2, j3⟩ := lay_loop T (cnt6_le b 6) hn1 (4999 - (PLs (cnt6 b 6) b).length) (PLs (cnt6 b 6) b) σ1 none p2 (fun p hp => by
    obtain ⟨q1, q2⟩ := p1 p hp
    refine ⟨q1, fun x hx => ?_⟩
    obtain ⟨q3, q4⟩ := q2 x hx
    rcases Nat.lt_or_ge x H with z | z
    · exact z
    · exfalso
      rw [Nat.div_eq_of_lt (Nat.lt_of_lt_of_le hb (Nat.pow_le_pow_right (by decide) z))] at q4
      exact absurd q4 (by decide)) (fun p hp => by rw [p3] at hp; cases hp; exact i2) (fun a ea => by cases ea) i3.s21
  rw [show 4999 - (PLs (cnt6 b 6) b).length + (PLs (cnt6 b 6) b).length + 1 = fuelN from by show _ = 5000; omega] at j1
  refine ⟨σ2, ?_, j2, j3⟩
  unfold FM_layTour
  rw [show FM_layTour_4 fuelN σ (nI b) 0 0 = _ from i1]
  exact j1
