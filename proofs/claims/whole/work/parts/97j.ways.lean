/-! PURE: realm: roads into ways, over each town in turn, by both -/
def fw (w : Nat → Nat → Nat) : Nat → Nat → Nat → Nat
  | 0, a, b => w a b
  | k + 1, a, b => min (fw w k a b) (fw w k a k + fw w k k b)
section FW
variable {w : Nat → Nat → Nat}
theorem WR.le (hw : WR w) {a b : Nat} (ha : a < 8) (hb : b < 8) : w a b ≤ 1000000 := by
  rcases (hw a b ha hb).1 with z | z <;> omega
theorem fw_inv (hw : WR w) : ∀ k, k ≤ 8 → (∀ a, a < 8 → fw w k a a = 0) ∧ (∀ a b, a < 8 → b < 8 → fw w k a b = fw w k b a) ∧ (∀ a b, a < 8 → b < 8 → a ≠ b → 1 ≤ fw w k a b) ∧ (∀ a b, a < 8 → b < 8 → fw w k a b ≤ w a b) ∧ (∀ a b c, a < 8 → b < 8 → c < k → fw w k a b ≤ fw w k a c + w c b) ∧ (∀ a b, a < 8 → b < 8 → fw w k a b < 1000000 → fw w k a b = w a b ∨ ∃ c, c < k ∧ c ≠ b ∧ fw w k a c + w c b = fw w k a b) := by
  intro k
  induction k with
  | zero =>
    intro _
    refine ⟨fun a ha => (hw a a ha ha).2.2.1 rfl, fun a b ha hb => (hw a b ha hb).2.1, fun a b ha hb hn => (hw a b ha hb).2.2.2 hn, fun a b _ _ => Nat.le_refl _, fun a b c _ _ hc => absurd hc (Nat.not_lt_zero c), fun a b _ _ _ => Or.inl rfl⟩
  | succ k ih =>
    intro hk
    obtain ⟨i1, i2, i3, i4, i5, i6⟩ := ih (by omega)
    have hk8 : k < 8 := by omega
    have e : ∀ a b, fw w (k + 1) a b = min (fw w k a b) (fw w k a k + fw w k k b) := fun _ _ => rfl
    have ek : ∀ a, a < 8 → fw w (k + 1) a k = fw w k a k := fun a ha => by rw [e, i1 k hk8]; omega
    have T : ∀ a b c, a < 8 → b < 8 → c < k + 1 → fw w (k + 1) a b ≤ fw w (k + 1) a c + w c b := by
      intro a b c ha hb hc
      by_cases z : c = k
      · subst z
        rw [ek a ha, e]
        have := i4 c b hk8 hb
        omega
      · have h1 := i5 a b c ha hb (by omega)
        have h2 := i5 k b c hk8 hb (by omega)
        rw [e, e]
        omega
    refine ⟨fun a ha => ?_, fun a b ha hb => ?_, fun a b ha hb hn => ?_, fun a b ha hb => ?_, T, fun a b ha hb hf => ?_⟩
    · rw [e, i1 a ha]; omega
    · rw [e, e, i2 a b ha hb, i2 a k ha hk8, i2 k b hk8 hb, Nat.add_comm]
    · rw [e]
      have h1 := i3 a b ha hb hn
      by_cases z : a = k
      · have h2 := i3 k b hk8 hb (fun q => hn (z.trans q))
        omega
      · have h2 := i3 a k ha hk8 z
        omega
    · rw [e]
      have := i4 a b ha hb
      omega
    · by_cases z : fw w k a b ≤ fw w k a k + fw w k k b
      · have e1 : fw w (k + 1) a b = fw w k a b := by rw [e]; omega
        rw [e1] at hf
        rcases i6 a b ha hb hf with q | ⟨c, c1, c2, c3⟩
        · exact Or.inl (e1.trans q)
        · refine Or.inr ⟨c, by omega, c2, ?_⟩
          have h1 := T a b c ha hb (by omega)
          have h2 : fw w (k + 1) a c ≤ fw w k a c := by rw [e]; omega
          omega
      · have e1 : fw w (k + 1) a b = fw w k a k + fw w k k b := by rw [e]; omega
        rcases i6 k b hk8 hb (by omega) with q | ⟨c, c1, c2, c3⟩
        · refine Or.inr ⟨k, by omega, fun y => ?_, ?_⟩
          · subst y
            rw [i1 k hk8] at z
            omega
          · rw [ek a ha]
            omega
        · refine Or.inr ⟨c, by omega, c2, ?_⟩
          have h1 := T a b c ha hb (by omega)
          have h2 : fw w (k + 1) a c ≤ fw w k a k + fw w k k c := by rw [e]; omega
          omega
def cl (f : Nat → Nat) (x : Nat) : Nat → Nat
  | 0 => 0
  | k + 1 => cl f x k + (if f k < x then 1 else 0)
theorem cl_le (f : Nat → Nat) (x : Nat) : ∀ k, cl f x k ≤ k := by
  intro k
  induction k with
  | zero => exact Nat.le_refl _
  | succ k ih =>
    show cl f x k + (if f k < x then 1 else 0) ≤ k + 1
    split <;> omega
theorem cl_mono (f : Nat → Nat) {x y : Nat} (h : y ≤ x) : ∀ k, cl f y k ≤ cl f x k := by
  intro k
  induction k with
  | zero => exact Nat.le_refl _
  | succ k ih =>
    show cl f y k + (if f k < y then 1 else 0) ≤ cl f x k + (if f k < x then 1 else 0)
    by_cases z : f k < y
    · rw [if_pos z, if_pos (by omega)]; omega
    · rw [if_neg z]; omega
theorem cl_strict (f : Nat → Nat) {x c : Nat} (h : f c < x) : ∀ k, c < k → cl f (f c) k + 1 ≤ cl f x k := by
  intro k
  induction k with
  | zero => intro hc; exact absurd hc (Nat.not_lt_zero c)
  | succ k ih =>
    intro hc
    show cl f (f c) k + (if f k < f c then 1 else 0) + 1 ≤ cl f x k + (if f k < x then 1 else 0)
    by_cases z : c = k
    · subst z
      have := cl_mono f (Nat.le_of_lt h) c
      rw [if_neg (Nat.lt_irrefl _), if_pos h]
      omega
    · have := ih (by omega)
      by_cases z2 : f k < f c
      · rw [if_pos z2, if_pos (by omega)]; omega
      · rw [if_neg z2]; omega
theorem fw_bd (hw : WR w) {k : Nat} (hk : k ≤ 8) {a : Nat} (ha : a < 8) : ∀ (x b : Nat), b < 8 → fw w k a b = x → x < 1000000 → x ≤ 90 * (cl (fw w k a) x k + 1) := by
  obtain ⟨-, -, -, -, -, L⟩ := fw_inv hw k hk
  intro x
  induction x using Nat.strongRecOn with
  | ind x ih =>
    intro b hb e hx
    rcases L a b ha hb (by omega) with q | ⟨c, c1, c2, c3⟩
    · have := (hw a b ha hb).1
      omega
    · have h1 := (hw c b (by omega) hb).2.2.2 c2
      have h2 := (hw c b (by omega) hb).1
      have h3 := ih (fw w k a c) (by omega) c (by omega) rfl (by omega)
      have h4 := cl_strict (fw w k a) (x := x) (c := c) (by omega) k c1
      omega
theorem fw_fin (hw : WR w) {k : Nat} (hk : k ≤ 8) {a b : Nat} (ha : a < 8) (hb : b < 8) : fw w k a b = 1000000 ∨ fw w k a b ≤ 810 := by
  obtain ⟨-, -, -, i4, -⟩ := fw_inv hw k hk
  have h1 := i4 a b ha hb
  have h2 := hw.le ha hb
  rcases Nat.lt_or_ge (fw w k a b) 1000000 with z | z
  · right
    have h3 := fw_bd hw hk ha _ b hb rfl z
    have h4 := cl_le (fw w k a) (fw w k a b) k
    omega
  · left; omega
theorem capmin {x y z : Nat} (hx : x = 1000000 ∨ x ≤ 810) (hy : y = 1000000 ∨ y ≤ 810) (hz : z = 1000000 ∨ z ≤ 810) : min (cap x) (cap y + cap z) = cap (min x (y + z)) := by
  unfold cap
  split <;> split <;> split <;> split <;> omega
def mx (w : Nat → Nat → Nat) (k a b i j : Nat) : Nat := if i < a ∨ (i = a ∧ j < b) then fw w (k + 1) i j else fw w k i j
def MC (w : Nat → Nat → Nat) (σ : MS) (k a b : Nat) : Prop := ∀ i j, i < 8 → j < 8 → σ.2 0 (8 * i + j) = nI (mx w k a b i j)
def MM (w : Nat → Nat → Nat) (σ : MS) (k a b : Nat) : Prop := ∀ i j, i < 8 → j < 8 → σ.2 6 (5 + 8 * i + j) = nI (cap (mx w k a b i j))
theorem mx_ak (hw : WR w) {k a b : Nat} (hk : k < 8) (ha : a < 8) : mx w k a b a k = fw w k a k := by
  obtain ⟨i1, -⟩ := fw_inv hw k (by omega)
  unfold mx
  split
  · show min (fw w k a k) (fw w k a k + fw w k k k) = _
    rw [i1 k hk]; omega
  · rfl
theorem mx_kb (hw : WR w) {k a b : Nat} (hk : k < 8) (hb : b < 8) : mx w k a b k b = fw w k k b := by
  obtain ⟨i1, -⟩ := fw_inv hw k (by omega)
  unfold mx
  split
  · show min (fw w k k b) (fw w k k k + fw w k k b) = _
    rw [i1 k hk]; omega
  · rfl
theorem mx_ab {k a b : Nat} : mx w k a b a b = fw w k a b := by
  unfold mx
  rw [if_neg (by omega)]
theorem mx_0 {i j : Nat} : mx w 0 0 0 i j = w i j := by
  unfold mx
  rw [if_neg (by omega)]
  rfl
theorem mx_s {k a b i j : Nat} (h : ¬ (i = a ∧ j = b)) : mx w k a (b + 1) i j = mx w k a b i j := by
  unfold mx
  by_cases z : i < a ∨ (i = a ∧ j < b)
  · rw [if_pos z, if_pos (by omega)]
  · rw [if_neg z, if_neg (by omega)]
theorem mx_e {k a b : Nat} : mx w k a (b + 1) a b = fw w (k + 1) a b := by
  unfold mx
  rw [if_pos (by omega)]
theorem mx_8 {k a i j : Nat} (hj : j < 8) : mx w k (a + 1) 0 i j = mx w k a 8 i j := by
  unfold mx
  by_cases z : i < a ∨ (i = a ∧ j < 8)
  · rw [if_pos z, if_pos (by omega)]
  · rw [if_neg z, if_neg (by omega)]
theorem mx_n {k i j : Nat} (hi : i < 8) : mx w (k + 1) 0 0 i j = mx w k 8 0 i j := by
  unfold mx
  rw [if_neg (by omega), if_pos (by omega)]
theorem ix8 (a b : Nat) : (nI a * 8 + nI b : Int32) = nI (8 * a + b) := by
  rw [show (8 : Int32) = nI 8 from rfl, pk_mul, nI_add, Nat.mul_comm]
theorem ix58 (a b : Nat) : (5 + 8 * nI a + nI b : Int32) = nI (5 + 8 * a + b) := by
  rw [show (8 : Int32) = nI 8 from rfl, pk_mul, show (5 : Int32) = nI 5 from rfl, nI_add, nI_add]
def S0 (a b : MS) : Prop := b.1 = a.1 ∧ ∀ i, i ≠ 0 → b.2 i = a.2 i
theorem S0.rf (a : MS) : S0 a a := ⟨rfl, fun _ _ => rfl⟩
theorem S0.tr {a b c : MS} (h : S0 a b) (h' : S0 b c) : S0 a c := ⟨h'.1.trans h.1, fun i hi => (h'.2 i hi).trans (h.2 i hi)⟩
theorem sw18 (hw : WR w) {k a : Nat} (hk : k < 8) (ha : a < 8) (ag2 : MS → Int32 → Option MS) (ag10 : MS → Int32 → Int32 → Option MS) (n : Nat) : ∀ (d b : Nat) (σ : MS), b + d = 8 → MC w σ k a b → ∃ σ', FL_shortenWays_18 ag2 ag10 (n + d + 1) σ (nI k) (nI a) (nI b) = ag10 σ' (nI k) (nI (a + 1)) ∧ MC w σ' k (a + 1) 0 ∧ S0 σ σ' := by
  intro d
  induction d with
  | zero =>
    intro b σ hb hM
    have hb : b = 8 := hb
    subst hb
    refine ⟨σ, ?_, fun i j hi hj => by rw [mx_8 hj]; exact hM i j hi hj, S0.rf σ⟩
    rw [FL_shortenWays_18, if_pos (show (8 : Int32) ≤ nI 8 by decide)]
    simp only [nm]
    rw [nI_1]
  | succ d ih =>
    intro b σ hb hM
    have hb8 : b < 8 := by omega
    have v1 := hM a k ha hk
    have v2 := hM k b hk hb8
    have v3 := hM a b ha hb8
    rw [mx_ak hw hk ha] at v1
    rw [mx_kb hw hk hb8] at v2
    rw [mx_ab] at v3
    have f1 := fw_fin hw (k := k) (by omega) ha hk
    have f2 := fw_fin hw (k := k) (by omega) hk hb8
    have f3 := fw_fin hw (k := k) (by omega) ha hb8
    obtain ⟨σ', i1, i2, i3⟩ := ih (b + 1) (setA σ 0 (8 * a + b) (nI (fw w (k + 1) a b))) (by omega) (fun i j hi hj => by
      show upd (σ.2 0) (8 * a + b) _ (8 * i + j) = _
      by_cases z : i = a ∧ j = b
      · rw [z.1, z.2, pk_us, mx_e]
      · rw [pk_un (by omega), mx_s z]; exact hM i j hi hj)
    refine ⟨σ', ?_, i2, (show S0 σ (setA σ 0 (8 * a + b) (nI (fw w (k + 1) a b))) from ⟨rfl, fun _ hi => va_up_ne _ _ hi⟩).tr i3⟩
    show FL_shortenWays_18 ag2 ag10 ((n + d + 1) + 1) σ _ _ _ = _
    rw [FL_shortenWays_18, if_neg (show ¬ (8 : Int32) ≤ nI b from nI_ge (b := 8) hb8 (by decide)), ix8, ix8, ix8, gd_nI (N := 64) (by omega) (by decide), gd_nI (N := 64) (by omega) (by decide)]
    simp only [nm]
    rw [gd_nI (N := 64) (by omega) (by decide), gd_nI (N := 64) (by omega) (by decide), nI_clamp (n := 8 * a + k) (by omega), nI_clamp (n := 8 * k + b) (by omega), nI_clamp (n := 8 * a + b) (by omega), v1, v2, v3, nI_add, nI_1, show (if nI (fw w k a k + fw w k k b) < nI (fw w k a b) then nI (fw w k a k + fw w k k b) else nI (fw w k a b)) = nI (fw w (k + 1) a b) from by
      show _ = nI (min (fw w k a b) (fw w k a k + fw w k k b))
      by_cases z : fw w k a k + fw w k k b < fw w k a b
      · rw [if_pos (nI_lt z (by omega)), Nat.min_eq_right (by omega)]
      · rw [if_neg (nI_nlt (by omega) (by omega)), Nat.min_eq_left (by omega)]]
    exact i1
theorem sw10 (hw : WR w) {k : Nat} (hk : k < 8) (ag2 : MS → Int32 → Option MS) (n : Nat) : ∀ (d a : Nat) (σ : MS), a + d = 8 → MC w σ k a 0 → ∃ σ', FL_shortenWays_10 ag2 (n + d + 1) σ (nI k) (nI a) = ag2 σ' (nI (k + 1)) ∧ MC w σ' (k + 1) 0 0 ∧ S0 σ σ' := by
  intro d
  induction d with
  | zero =>
    intro a σ ha hM
    have ha : a = 8 := ha
    subst ha
    refine ⟨σ, ?_, fun i j hi hj => by rw [mx_n hi]; exact hM i j hi hj, S0.rf σ⟩
    rw [FL_shortenWays_10, if_pos (show (8 : Int32) ≤ nI 8 by decide)]
    simp only [nm]
    rw [nI_1]
  | succ d ih =>
    intro a σ ha hM
    obtain ⟨σ1, i1, i2, i3⟩ := sw18 hw hk (show a < 8 by omega) ag2 (FL_shortenWays_10 ag2 (n + d + 1)) 4991 8 0 σ (by decide) hM
    obtain ⟨σ', j1, j2, j3⟩ := ih (a + 1) σ1 (by omega) i2
    refine ⟨σ', ?_, j2, i3.tr j3⟩
    show FL_shortenWays_10 ag2 ((n + d + 1) + 1) σ _ _ = _
    rw [FL_shortenWays_10, if_neg (show ¬ (8 : Int32) ≤ nI a from nI_ge (b := 8) (by omega) (by decide))]
    exact (i1.trans j1)
theorem sw2 (hw : WR w) (n : Nat) : ∀ (d k : Nat) (σ : MS), k + d = 8 → MC w σ k 0 0 → ∃ σ', FL_shortenWays_2 (n + d + 1) σ (nI k) = some σ' ∧ MC w σ' 8 0 0 ∧ S0 σ σ' := by
  intro d
  induction d with
  | zero =>
    intro k σ hk hM
    have hk : k = 8 := hk
    subst hk
    refine ⟨σ, ?_, hM, S0.rf σ⟩
    rw [FL_shortenWays_2, if_pos (show (8 : Int32) ≤ nI 8 by decide)]
  | succ d ih =>
    intro k σ hk hM
    obtain ⟨σ1, i1, i2, i3⟩ := sw10 hw (show k < 8 by omega) (FL_shortenWays_2 (n + d + 1)) 4991 8 0 σ (by decide) hM
    obtain ⟨σ', j1, j2, j3⟩ := ih (k + 1) σ1 (by omega) i2
    refine ⟨σ', ?_, j2, i3.tr j3⟩
    show FL_shortenWays_2 ((n + d + 1) + 1) σ _ = _
    rw [FL_shortenWays_2, if_neg (show ¬ (8 : Int32) ≤ nI k from nI_ge (b := 8) (by omega) (by decide))]
    exact (i1.trans j1)
theorem lf18 (hw : WR w) {k a : Nat} (hk : k < 8) (ha : a < 8) (ag2 : MS → Int32 → Option MS) (ag10 : MS → Int32 → Int32 → Option MS) (n : Nat) : ∀ (d b : Nat) (σ : MS), b + d = 8 → MM w σ k a b → ∃ σ', FM_layFar_18 ag2 ag10 (n + d + 1) σ (nI k) (nI a) (nI b) = ag10 σ' (nI k) (nI (a + 1)) ∧ MM w σ' k (a + 1) 0 ∧ S6 σ σ' ∧ (∀ j, ¬ (5 ≤ j ∧ j < 69) → σ'.2 6 j = σ.2 6 j) := by
  intro d
  induction d with
  | zero =>
    intro b σ hb hM
    have hb : b = 8 := hb
    subst hb
    refine ⟨σ, ?_, fun i j hi hj => by rw [mx_8 hj]; exact hM i j hi hj, S6.rf σ, fun _ _ => rfl⟩
    rw [FM_layFar_18, if_pos (show (8 : Int32) ≤ nI 8 by decide)]
    simp only [nm]
    rw [nI_1]
  | succ d ih =>
    intro b σ hb hM
    have hb8 : b < 8 := by omega
    have v1 := hM a k ha hk
    have v2 := hM k b hk hb8
    have v3 := hM a b ha hb8
    rw [mx_ak hw hk ha] at v1
    rw [mx_kb hw hk hb8] at v2
    rw [mx_ab] at v3
    have f1 := fw_fin hw (k := k) (by omega) ha hk
    have f2 := fw_fin hw (k := k) (by omega) hk hb8
    have f3 := fw_fin hw (k := k) (by omega) ha hb8
    have cm := capmin f3 f1 f2
    have c1 : cap (fw w k a k) ≤ 10000 := by unfold cap; split <;> omega
    have c2 : cap (fw w k k b) ≤ 10000 := by unfold cap; split <;> omega
    have c3 : cap (fw w k a b) ≤ 10000 := by unfold cap; split <;> omega
    obtain ⟨σ', i1, i2, i3, i4⟩ := ih (b + 1) (setA σ 6 (5 + 8 * a + b) (nI (cap (fw w (k + 1) a b)))) (by omega) (fun i j hi hj => by
      rw [A6g]
      by_cases z : i = a ∧ j = b
      · rw [z.1, z.2, pk_us, mx_e]
      · rw [pk_un (by omega), mx_s z]; exact hM i j hi hj)
    refine ⟨σ', ?_, i2, (S6.st σ _ _).tr i3, fun j hj => by rw [i4 j hj, A6g, pk_un (by omega)]⟩
    have h101 : ∀ x, FM_layFar_101 ag2 ag10 (FM_layFar_18 ag2 ag10 (n + d + 1)) σ (nI k) (nI a) (nI b) x (nI (5 + 8 * a + b)) = FM_layFar_18 ag2 ag10 (n + d + 1) (setA σ 6 (5 + 8 * a + b) x) (nI k) (nI a) (nI (b + 1)) := fun x => by
      unfold FM_layFar_101
      rw [gd_nI (N := 147) (by omega) (by decide), nI_clamp (by omega)]
      simp only [nm]
      rw [nI_1]
    show FM_layFar_18 ag2 ag10 ((n + d + 1) + 1) σ _ _ _ = _
    rw [FM_layFar_18, if_neg (show ¬ (8 : Int32) ≤ nI b from nI_ge (b := 8) hb8 (by decide)), ix58, ix58, ix58, gd_nI (N := 147) (by omega) (by decide), gd_nI (N := 147) (by omega) (by decide)]
    simp only [nm]
    rw [gd_nI (N := 147) (by omega) (by decide), nI_clamp (n := 5 + 8 * a + k) (by omega), nI_clamp (n := 5 + 8 * k + b) (by omega), nI_clamp (n := 5 + 8 * a + b) (by omega), gd_cl (N := 147) (by omega) (by decide), v1, v2, v3, nI_add, h101, h101]
    have e1 : fw w (k + 1) a b = min (fw w k a b) (fw w k a k + fw w k k b) := rfl
    rw [e1, ← cm] at i1
    by_cases z : cap (fw w k a b) ≤ cap (fw w k a k) + cap (fw w k k b)
    · rw [if_pos (nI_le z (by omega))]
      rw [Nat.min_eq_left z] at i1
      exact i1
    · rw [if_neg (nI_ge (by omega) (by omega))]
      rw [Nat.min_eq_right (by omega)] at i1
      exact i1
theorem lf10 (hw : WR w) {k : Nat} (hk : k < 8) (ag2 : MS → Int32 → Option MS) (n : Nat) : ∀ (d a : Nat) (σ : MS), a + d = 8 → MM w σ k a 0 → ∃ σ', FM_layFar_10 ag2 (n + d + 1) σ (nI k) (nI a) = ag2 σ' (nI (k + 1)) ∧ MM w σ' (k + 1) 0 0 ∧ S6 σ σ' ∧ (∀ j, ¬ (5 ≤ j ∧ j < 69) → σ'.2 6 j = σ.2 6 j) := by
  intro d
  induction d with
  | zero =>
    intro a σ ha hM
    have ha : a = 8 := ha
    subst ha
    refine ⟨σ, ?_, fun i j hi hj => by rw [mx_n hi]; exact hM i j hi hj, S6.rf σ, fun _ _ => rfl⟩
    rw [FM_layFar_10, if_pos (show (8 : Int32) ≤ nI 8 by decide)]
    simp only [nm]
    rw [nI_1]
  | succ d ih =>
    intro a σ ha hM
    obtain ⟨σ1, i1, i2, i3, i4⟩ := lf18 hw hk (show a < 8 by omega) ag2 (FM_layFar_10 ag2 (n + d + 1)) 4991 8 0 σ (by decide) hM
    obtain ⟨σ', j1, j2, j3, j4⟩ := ih (a + 1) σ1 (by omega) i2
    refine ⟨σ', ?_, j2, i3.tr j3, fun j hj => (j4 j hj).trans (i4 j hj)⟩
    show FM_layFar_10 ag2 ((n + d + 1) + 1) σ _ _ = _
    rw [FM_layFar_10, if_neg (show ¬ (8 : Int32) ≤ nI a from nI_ge (b := 8) (by omega) (by decide))]
    exact (i1.trans j1)
theorem lf2 (hw : WR w) (n : Nat) : ∀ (d k : Nat) (σ : MS), k + d = 8 → MM w σ k 0 0 → ∃ σ', FM_layFar_2 (n + d + 1) σ (nI k) = some σ' ∧ MM w σ' 8 0 0 ∧ S6 σ σ' ∧ (∀ j, ¬ (5 ≤ j ∧ j < 69) → σ'.2 6 j = σ.2 6 j) := by
  intro d
  induction d with
  | zero =>
    intro k σ hk hM
    have hk : k = 8 := hk
    subst hk
    refine ⟨σ, ?_, hM, S6.rf σ, fun _ _ => rfl⟩
    rw [FM_layFar_2, if_pos (show (8 : Int32) ≤ nI 8 by decide)]
  | succ d ih =>
    intro k σ hk hM
    obtain ⟨σ1, i1, i2, i3, i4⟩ := lf10 hw (show k < 8 by omega) (FM_layFar_2 (n + d + 1)) 4991 8 0 σ (by decide) hM
    obtain ⟨σ', j1, j2, j3, j4⟩ := ih (k + 1) σ1 (by omega) i2
    refine ⟨σ', ?_, j2, i3.tr j3, fun j hj => (j4 j hj).trans (i4 j hj)⟩
    show FM_layFar_2 ((n + d + 1) + 1) σ _ = _
    rw [FM_layFar_2, if_neg (show ¬ (8 : Int32) ≤ nI k from nI_ge (b := 8) (by omega) (by decide))]
    exact (i1.trans j1)
end FW
