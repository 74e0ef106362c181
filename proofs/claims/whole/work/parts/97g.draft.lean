/-! PURE: realm: what is read so far, both sides -/
def cap (x : Nat) : Nat := if x < 1000000 then x else 10000
def WR (w : Nat → Nat → Nat) : Prop := ∀ a b, a < 8 → b < 8 → (w a b = 1000000 ∨ w a b ≤ 90) ∧ w a b = w b a ∧ (a = b → w a b = 0) ∧ (a ≠ b → 1 ≤ w a b)
def DRp (r h c : Nat) (told leave holders coins : Int32) (ways towns kinds ch g : Nat → Int32) : Prop :=
  (told = 0 ∧ leave = g 0 ∧ 0 ≤ g 0 ∧ g 0 ≤ 400) ∧ (g 1 = nI r ∧ r ≤ 14) ∧ (holders = nI h ∧ g 2 = nI h ∧ h ≤ 6) ∧ (coins = nI c ∧ g 3 = nI c ∧ c ≤ 12) ∧ (g 4 = 0 ∧ ch 60 = 0) ∧
  (∃ w : Nat → Nat → Nat, WR w ∧ ∀ a b, a < 8 → b < 8 → ways (8 * a + b) = nI (w a b) ∧ g (5 + 8 * a + b) = nI (cap (w a b))) ∧
  (∀ i, i < h → ∃ t, 1 ≤ t ∧ t ≤ 7 ∧ towns i = nI t ∧ g (69 + i) = nI t) ∧
  (∀ j, j < c → ∃ kk q a, 1 ≤ kk ∧ kk ≤ 5 ∧ q < h ∧ a ≤ 400 ∧ kinds j = nI kk ∧ g (75 + 6 * j) = nI kk ∧ ch (5 * j) = nI q ∧ g (76 + 6 * j) = nI q ∧ ch (5 * j + 1) = nI a ∧ g (77 + 6 * j) = nI a) ∧
  (∀ j, j < 12 → ∀ f, 2 ≤ f → f < 5 → ch (5 * j + f) = 0 ∧ g (76 + 6 * j + f) = 0)
abbrev DR (r h c : Nat) (σG : MS) (g : Nat → Int32) : Prop := DRp r h c (σG.1 4) (σG.1 5) (σG.1 6) (σG.1 7) (σG.2 0) (σG.2 1) (σG.2 2) (σG.2 3) g
theorem A6g (σ : MS) (i : Nat) (x : Int32) : (setA σ 6 i x).2 6 = upd (σ.2 6) i x := va_up_self σ.2 6 (upd (σ.2 6) i x)
theorem cap_low {x : Nat} (h : x ≤ 999) : cap x = x := if_pos (by omega)
section DD
variable {r h c : Nat} {told leave holders coins : Int32} {ways towns kinds ch g : Nat → Int32}
theorem DRp.leave' (D : DRp r h c told leave holders coins ways towns kinds ch g) {v : Nat} (hv : v ≤ 400) : DRp r h c told (nI v) holders coins ways towns kinds ch (upd g 0 (nI v)) := by
  obtain ⟨⟨d1, d2, d3, d4⟩, ⟨e1, e2⟩, ⟨f1, f2, f3⟩, ⟨g1, g2, g3⟩, ⟨h1, h2⟩, ⟨w, w1, w2⟩, ht, hc, hz⟩ := D
  refine ⟨⟨d1, by rw [pk_us], by rw [pk_us]; exact nI_pos' (by omega), by rw [pk_us]; exact nI_le (b := 400) hv (by decide)⟩, ⟨by rw [pk_un (by decide)]; exact e1, e2⟩, ⟨f1, by rw [pk_un (by decide)]; exact f2, f3⟩, ⟨g1, by rw [pk_un (by decide)]; exact g2, g3⟩, ⟨by rw [pk_un (by decide)]; exact h1, h2⟩, ⟨w, w1, fun a b ha hb => ?_⟩, fun i hi => ?_, fun j hj => ?_, fun j hj f q1 q2 => ?_⟩
  · rw [pk_un (by omega)]; exact w2 a b ha hb
  · rw [pk_un (by omega)]; exact ht i hi
  · rw [pk_un (by omega), pk_un (by omega), pk_un (by omega)]; exact hc j hj
  · rw [pk_un (by omega)]; exact hz j hj f q1 q2
theorem DRp.road (D : DRp r h c told leave holders coins ways towns kinds ch g) (hr : r < 14) {a b d : Nat} (ha : a < 8) (hb : b < 8) (hab : a ≠ b) (hd1 : 1 ≤ d) (hd : d ≤ 90) : ∃ z : Nat, (if nI d < ways (8 * a + b) then nI d else ways (8 * a + b)) = nI z ∧ (if nI d ≤ g (5 + 8 * a + b) then nI d else g (5 + 8 * a + b)) = nI z ∧ DRp (r + 1) h c told leave holders coins (upd (upd ways (8 * a + b) (nI z)) (8 * b + a) (nI z)) towns kinds ch (upd (upd (upd g (5 + 8 * a + b) (nI z)) (5 + 8 * b + a) (nI z)) 1 (nI (r + 1))) := by
  obtain ⟨⟨d1, d2, d3, d4⟩, ⟨e1, e2⟩, ⟨f1, f2, f3⟩, ⟨g1, g2, g3⟩, ⟨h1, h2⟩, ⟨w, w1, w2⟩, ht, hc, hz⟩ := D
  obtain ⟨x1, x2⟩ := w2 a b ha hb
  obtain ⟨y1, y2, y3, y4⟩ := w1 a b ha hb
  have hwl : w a b ≤ 1000000 := by omega
  have hcap : cap (w a b) = w a b ∨ (w a b = 1000000 ∧ cap (w a b) = 10000) := by
    rcases y1 with y | y
    · right; exact ⟨y, by rw [y]; rfl⟩
    · left; exact cap_low (by omega)
  refine ⟨min d (w a b), ?_, ?_, ?_⟩
  · rw [x1]
    by_cases z : d < w a b
    · rw [if_pos (nI_lt z (by omega)), Nat.min_eq_left (by omega)]
    · rw [if_neg (nI_nlt (by omega) (by omega)), Nat.min_eq_right (by omega)]
  · rw [x2]
    by_cases z : d ≤ cap (w a b)
    · rw [if_pos (nI_le z (by omega)), Nat.min_eq_left (by omega)]
    · rw [if_neg (nI_ge (by omega) (by omega)), show cap (w a b) = min d (w a b) from by omega]
  · have hmin : min d (w a b) ≤ 90 := Nat.le_trans (Nat.min_le_left _ _) hd
    have hmin1 : 1 ≤ min d (w a b) := by have := y4 hab; omega
    generalize min d (w a b) = z at hmin hmin1
    refine ⟨⟨d1, by rw [pk_un (by decide), pk_un (by omega), pk_un (by omega)]; exact d2, by rw [pk_un (by decide), pk_un (by omega), pk_un (by omega)]; exact d3, by rw [pk_un (by decide), pk_un (by omega), pk_un (by omega)]; exact d4⟩, ⟨by rw [pk_us], by omega⟩, ⟨f1, by rw [pk_un (by decide), pk_un (by omega), pk_un (by omega)]; exact f2, f3⟩, ⟨g1, by rw [pk_un (by decide), pk_un (by omega), pk_un (by omega)]; exact g2, g3⟩, ⟨by rw [pk_un (by decide), pk_un (by omega), pk_un (by omega)]; exact h1, h2⟩, ⟨fun i j => if (i = a ∧ j = b) ∨ (i = b ∧ j = a) then z else w i j, fun i j hi hj => ?_, fun i j hi hj => ?_⟩, fun i hi => ?_, fun j hj => ?_, fun j hj f q1 q2 => ?_⟩
    · obtain ⟨v1, v2, v3, v4⟩ := w1 i j hi hj
      dsimp only
      by_cases q : (i = a ∧ j = b) ∨ (i = b ∧ j = a)
      · rw [if_pos q, if_pos (show (j = a ∧ i = b) ∨ (j = b ∧ i = a) by omega)]
        exact ⟨Or.inr hmin, rfl, fun e => by omega, fun _ => hmin1⟩
      · rw [if_neg q, if_neg (show ¬ ((j = a ∧ i = b) ∨ (j = b ∧ i = a)) by omega)]
        exact ⟨v1, v2, v3, v4⟩
    · obtain ⟨v1, v2⟩ := w2 i j hi hj
      dsimp only
      rw [pk_un (show 5 + 8 * i + j ≠ 1 by omega)]
      by_cases q : i = b ∧ j = a
      · obtain ⟨rfl, rfl⟩ := q
        rw [if_pos (Or.inr ⟨rfl, rfl⟩), pk_us, pk_us, cap_low (by omega)]
        exact ⟨rfl, rfl⟩
      · rw [pk_un (show 8 * i + j ≠ 8 * b + a by omega), pk_un (show 5 + 8 * i + j ≠ 5 + 8 * b + a by omega)]
        by_cases q2 : i = a ∧ j = b
        · obtain ⟨rfl, rfl⟩ := q2
          rw [if_pos (Or.inl ⟨rfl, rfl⟩), pk_us, pk_us, cap_low (by omega)]
          exact ⟨rfl, rfl⟩
        · rw [pk_un (show 8 * i + j ≠ 8 * a + b by omega), pk_un (show 5 + 8 * i + j ≠ 5 + 8 * a + b by omega), if_neg (by omega)]
          exact ⟨v1, v2⟩
    · rw [pk_un (by omega), pk_un (by omega), pk_un (by omega)]; exact ht i hi
    · rw [pk_un (by omega), pk_un (by omega), pk_un (by omega), pk_un (by omega), pk_un (by omega), pk_un (by omega), pk_un (by omega), pk_un (by omega), pk_un (by omega)]; exact hc j hj
    · rw [pk_un (by omega), pk_un (by omega), pk_un (by omega)]; exact hz j hj f q1 q2
theorem DRp.holder (D : DRp r h c told leave holders coins ways towns kinds ch g) (hh : h < 6) (hc0 : c = 0) {t : Nat} (ht1 : 1 ≤ t) (ht7 : t ≤ 7) : DRp r (h + 1) c told leave (nI (h + 1)) coins ways (upd towns h (nI t)) kinds ch (upd (upd g (69 + h) (nI t)) 2 (nI (h + 1))) := by
  obtain ⟨⟨d1, d2, d3, d4⟩, ⟨e1, e2⟩, ⟨f1, f2, f3⟩, ⟨g1, g2, g3⟩, ⟨h1, h2⟩, ⟨w, w1, w2⟩, ht, hc, hz⟩ := D
  subst hc0
  refine ⟨⟨d1, by rw [pk_un (by decide), pk_un (by omega)]; exact d2, by rw [pk_un (by decide), pk_un (by omega)]; exact d3, by rw [pk_un (by decide), pk_un (by omega)]; exact d4⟩, ⟨by rw [pk_un (by decide), pk_un (by omega)]; exact e1, e2⟩, ⟨rfl, by rw [pk_us], by omega⟩, ⟨g1, by rw [pk_un (by decide), pk_un (by omega)]; exact g2, g3⟩, ⟨by rw [pk_un (by decide), pk_un (by omega)]; exact h1, h2⟩, ⟨w, w1, fun a b ha hb => ?_⟩, fun i hi => ?_, fun j hj => absurd hj (Nat.not_lt_zero j), fun j hj f q1 q2 => ?_⟩
  · rw [pk_un (by omega), pk_un (by omega)]; exact w2 a b ha hb
  · rw [pk_un (show 69 + i ≠ 2 by omega)]
    by_cases z : i = h
    · rw [z, pk_us, pk_us]
      exact ⟨t, ht1, ht7, rfl, rfl⟩
    · rw [pk_un z, pk_un (by omega)]
      exact ht i (by omega)
  · rw [pk_un (by omega), pk_un (by omega)]; exact hz j hj f q1 q2
theorem DRp.coin (D : DRp r h c told leave holders coins ways towns kinds ch g) (hc12 : c < 12) {kk q a : Nat} (k1 : 1 ≤ kk) (k5 : kk ≤ 5) (hq : q < h) (ha : a ≤ 400) : DRp r h (c + 1) told leave holders (nI (c + 1)) ways towns (upd kinds c (nI kk)) (upd (upd ch (5 * c) (nI q)) (5 * c + 1) (nI a)) (upd (upd (upd (upd g (75 + 6 * c) (nI kk)) (75 + 6 * c + 1) (nI q)) (75 + 6 * c + 2) (nI a)) 3 (nI (c + 1))) := by
  obtain ⟨⟨d1, d2, d3, d4⟩, ⟨e1, e2⟩, ⟨f1, f2, f3⟩, ⟨g1, g2, g3⟩, ⟨h1, h2⟩, ⟨w, w1, w2⟩, ht, hc, hz⟩ := D
  have ne : ∀ i : Nat, i ≠ 3 → ¬ (75 + 6 * c ≤ i ∧ i < 78 + 6 * c) → upd (upd (upd (upd g (75 + 6 * c) (nI kk)) (75 + 6 * c + 1) (nI q)) (75 + 6 * c + 2) (nI a)) 3 (nI (c + 1)) i = g i := fun i i1 i2 => by
    rw [pk_un i1, pk_un (by omega), pk_un (by omega), pk_un (by omega)]
  have nc : ∀ i : Nat, i ≠ 5 * c → i ≠ 5 * c + 1 → upd (upd ch (5 * c) (nI q)) (5 * c + 1) (nI a) i = ch i := fun i i1 i2 => by
    rw [pk_un i2, pk_un i1]
  refine ⟨⟨d1, by rw [ne 0 (by decide) (by omega)]; exact d2, by rw [ne 0 (by decide) (by omega)]; exact d3, by rw [ne 0 (by decide) (by omega)]; exact d4⟩, ⟨by rw [ne 1 (by decide) (by omega)]; exact e1, e2⟩, ⟨f1, by rw [ne 2 (by decide) (by omega)]; exact f2, f3⟩, ⟨rfl, by rw [pk_us], by omega⟩, ⟨by rw [ne 4 (by decide) (by omega)]; exact h1, by rw [nc 60 (by omega) (by omega)]; exact h2⟩, ⟨w, w1, fun x y hx hy => ?_⟩, fun i hi => ?_, fun j hj => ?_, fun j hj f q1 q2 => ?_⟩
  · rw [ne _ (by omega) (by omega)]; exact w2 x y hx hy
  · rw [ne _ (by omega) (by omega)]; exact ht i hi
  · by_cases z : j = c
    · subst z
      refine ⟨kk, q, a, k1, k5, hq, ha, by rw [pk_us], ?_, ?_, ?_, by rw [pk_us], ?_⟩
      · rw [pk_un (by omega), pk_un (by omega), pk_un (by omega), pk_us]
      · rw [pk_un (by omega), pk_us]
      · rw [pk_un (by omega), pk_un (by omega), show 76 + 6 * j = 75 + 6 * j + 1 from by omega, pk_us]
      · rw [pk_un (by omega), show 77 + 6 * j = 75 + 6 * j + 2 from by omega, pk_us]
    · rw [pk_un z, ne _ (by omega) (by omega), nc _ (by omega) (by omega), ne _ (by omega) (by omega), nc _ (by omega) (by omega), ne _ (by omega) (by omega)]
      exact hc j (by omega)
  · rw [nc _ (by omega) (by omega), ne _ (by omega) (by omega)]; exact hz j hj f q1 q2
end DD
def S6 (a b : MS) : Prop := b.1 = a.1 ∧ ∀ i, i ≠ 6 → b.2 i = a.2 i
theorem S6.rf (a : MS) : S6 a a := ⟨rfl, fun _ _ => rfl⟩
theorem S6.tr {a b c : MS} (h : S6 a b) (h' : S6 b c) : S6 a c := ⟨h'.1.trans h.1, fun i hi => (h'.2 i hi).trans (h.2 i hi)⟩
theorem S6.st (σ : MS) (i : Nat) (x : Int32) : S6 σ (setA σ 6 i x) := ⟨rfl, fun _ hi => va_up_ne _ _ hi⟩
theorem JG.s6 {m : Nat} {u : Nat → Nat} {σ0 σT σ σ' : MS} (h : JG m u σ0 σT σ) (hS : S6 σ σ') : JG m u σ0 σT σ' := by
  obtain ⟨⟨h1, h2, h3, h4⟩, ⟨s, e, y, hK⟩, h0, hF⟩ := h
  refine ⟨⟨h1, h2, by rw [hS.1]; exact h3, by rw [hS.2 10 (by decide)]; exact h4⟩, ⟨s, e, y, ?_⟩, by rw [hS.1]; exact h0, hF.tr ⟨fun i _ _ _ _ _ _ => by rw [hS.1], hS.2⟩⟩
  unfold TK at hK ⊢
  rw [hS.1]
  exact hK
theorem clear_loop (n : Nat) : ∀ (d i : Nat) (σ : MS), i + d = 8 → (∀ a b, a < 8 → b < 8 → σ.2 0 (8 * a + b) = if a = b ∧ a < i then 0 else 1000000) → ∃ σG', FL_clear_11 (n + d + 1) σ (nI i) = some σG' ∧ (σG'.1 4 = 0 ∧ σG'.1 5 = 0 ∧ σG'.1 6 = 0 ∧ σG'.1 7 = 0) ∧ (∀ j, j < 61 → σG'.2 3 j = 0) ∧ (∀ a b, a < 8 → b < 8 → σG'.2 0 (8 * a + b) = if a = b then 0 else 1000000) := by
  intro d
  induction d with
  | zero =>
    intro i σ hi hw
    have hi : i = 8 := hi
    subst hi
    refine ⟨setF (setF (setF (setF (setR σ 3 (kfill 61 0 (σ.2 3))) 4 0) 5 0) 6 0) 7 0, ?_, ⟨rfl, rfl, rfl, rfl⟩, fun j hj => ?_, fun a b ha hb => ?_⟩
    · rw [FL_clear_11, if_pos (show (8 : Int32) ≤ nI 8 by decide)]
      rfl
    · show (if j < 61 then (0 : Int32) else _) = 0
      rw [if_pos hj]
    · show σ.2 0 (8 * a + b) = _
      rw [hw a b ha hb]
      by_cases z : a = b
      · rw [if_pos ⟨z, ha⟩, if_pos z]
      · rw [if_neg (fun q => z q.1), if_neg z]
  | succ d ih =>
    intro i σ hi hw
    obtain ⟨σG', a1, a2⟩ := ih (i + 1) (setA σ 0 (9 * i) 0) (by omega) (fun a b ha hb => by
      show upd (σ.2 0) (9 * i) 0 (8 * a + b) = _
      by_cases z : 8 * a + b = 9 * i
      · have z1 : a = b ∧ a < i + 1 := by omega
        rw [z, pk_us, if_pos z1]
      · rw [pk_un z, hw a b ha hb]
        by_cases q : a = b ∧ a < i
        · rw [if_pos q, if_pos (by omega)]
        · rw [if_neg q, if_neg (by omega)])
    refine ⟨σG', ?_, a2⟩
    show FL_clear_11 ((n + d + 1) + 1) σ (nI i) = _
    rw [FL_clear_11, if_neg (show ¬ (8 : Int32) ≤ nI i from nI_ge (b := 8) (by omega) (by decide)), show (nI i * 8 + nI i : Int32) = nI (9 * i) from by rw [show (8 : Int32) = nI 8 from rfl, pk_mul, nI_add, show i * 8 + i = 9 * i from by omega], gd_nI (N := 64) (by omega) (by decide), nI_clamp (by omega)]
    simp only [nm]
    rw [nI_1]
    exact a1
theorem p_clear (σG : MS) : ∃ σG', FL_clear σG = some σG' ∧ (σG'.1 4 = 0 ∧ σG'.1 5 = 0 ∧ σG'.1 6 = 0 ∧ σG'.1 7 = 0) ∧ (∀ j, j < 61 → σG'.2 3 j = 0) ∧ (∀ a b, a < 8 → b < 8 → σG'.2 0 (8 * a + b) = if a = b then 0 else 1000000) := by
  unfold FL_clear
  simp only [nm]
  exact clear_loop 4991 8 0 (setR σG 0 (kfill 64 1000000 (σG.2 0))) (by decide) (fun a b ha hb => by
    show (if 8 * a + b < 64 then (1000000 : Int32) else _) = _
    rw [if_pos (by omega), if_neg (fun q => Nat.not_lt_zero _ q.2)])
theorem fill_loop (n : Nat) : ∀ (d i : Nat) (σ : MS), i + d = 147 → (∀ j, j < i → σ.2 6 j = if 5 ≤ j ∧ j < 69 then 10000 else 0) → ∃ σ', FM_realm_11 (n + d + 1) σ (nI i) = FM_realm_50 fuelN σ' 0 ∧ (∀ j, j < 147 → σ'.2 6 j = if 5 ≤ j ∧ j < 69 then 10000 else 0) ∧ S6 σ σ' := by
  intro d
  induction d with
  | zero =>
    intro i σ hi hv
    have hi : i = 147 := hi
    subst hi
    refine ⟨σ, ?_, hv, S6.rf σ⟩
    rw [FM_realm_11, if_pos (show (147 : Int32) ≤ nI 147 by decide)]
  | succ d ih =>
    intro i σ hi hv
    obtain ⟨σ', a1, a2, a3⟩ := ih (i + 1) (setA σ 6 i (if 5 ≤ i ∧ i < 69 then 10000 else 0)) (by omega) (fun j hj => by
      rw [A6g]
      by_cases z : j = i
      · rw [z, pk_us]
      · rw [pk_un z]; exact hv j (by omega))
    refine ⟨σ', ?_, a2, (S6.st σ _ _).tr a3⟩
    show FM_realm_11 ((n + d + 1) + 1) σ (nI i) = _
    have h41 : ∀ x, FM_realm_41 (FM_realm_11 (n + d + 1)) σ (nI i) x (nI i) = FM_realm_11 (n + d + 1) (setA σ 6 i x) (nI (i + 1)) := fun x => by
      unfold FM_realm_41
      rw [gd_nI (N := 147) (by omega) (by decide), nI_clamp (by omega)]
      simp only [nm]
      rw [nI_1]
    rw [FM_realm_11, if_neg (show ¬ (147 : Int32) ≤ nI i from nI_ge (b := 147) (by omega) (by decide))]
    unfold FM_realm_40
    by_cases z1 : i < 5
    · rw [if_pos (show nI i < 5 from nI_lt (b := 5) z1 (by decide)), h41]
      rw [if_neg (by omega)] at a1
      exact a1
    · rw [if_neg (show ¬ nI i < 5 from nI_nlt (b := 5) (by omega) (by omega))]
      by_cases z2 : 69 ≤ i
      · rw [if_pos (show (69 : Int32) ≤ nI i from nI_le (a := 69) z2 (by omega)), h41]
        rw [if_neg (by omega)] at a1
        exact a1
      · rw [if_neg (show ¬ (69 : Int32) ≤ nI i from nI_ge (b := 69) (by omega) (by decide)), h41]
        rw [if_pos (by omega)] at a1
        exact a1
theorem diag_loop (n : Nat) : ∀ (d i : Nat) (σ : MS), i + d = 8 → (∀ j, j < 147 → (5 ≤ j ∧ j < 69) → σ.2 6 j = if (j - 5) % 9 = 0 ∧ j < 5 + 9 * i then 0 else 10000) → (∀ j, j < 147 → ¬ (5 ≤ j ∧ j < 69) → σ.2 6 j = 0) → ∃ σ', FM_realm_50 (n + d + 1) σ (nI i) = (Option.bind (FM_name σ') fun (r11 : Int64) => if (lg_cmp r11 7102839) = 0 then (FM_realm_91 σ' 1) else (FM_realm_91 σ' 0)) ∧ (∀ j, j < 147 → (5 ≤ j ∧ j < 69) → σ'.2 6 j = if (j - 5) % 9 = 0 then 0 else 10000) ∧ (∀ j, j < 147 → ¬ (5 ≤ j ∧ j < 69) → σ'.2 6 j = 0) ∧ S6 σ σ' := by
  intro d
  induction d with
  | zero =>
    intro i σ hi hv hz
    have hi : i = 8 := hi
    subst hi
    refine ⟨σ, ?_, fun j hj q => ?_, hz, S6.rf σ⟩
    · rw [FM_realm_50, if_pos (show (8 : Int32) ≤ nI 8 by decide)]
    · rw [hv j hj q]
      by_cases z : (j - 5) % 9 = 0
      · rw [if_pos ⟨z, by omega⟩, if_pos z]
      · rw [if_neg (fun q => z q.1), if_neg z]
  | succ d ih =>
    intro i σ hi hv hz
    obtain ⟨σ', a1, a2, a3, a4⟩ := ih (i + 1) (setA σ 6 (5 + 9 * i) 0) (by omega) (fun j hj q => by
      rw [A6g]
      by_cases z : j = 5 + 9 * i
      · rw [z, pk_us, if_pos (by omega)]
      · rw [pk_un z, hv j hj q]
        by_cases z2 : (j - 5) % 9 = 0 ∧ j < 5 + 9 * i
        · rw [if_pos z2, if_pos (by omega)]
        · rw [if_neg z2, if_neg (by omega)]) (fun j hj q => by
      rw [A6g, pk_un (by omega)]; exact hz j hj q)
    refine ⟨σ', ?_, a2, a3, (S6.st σ _ _).tr a4⟩
    show FM_realm_50 ((n + d + 1) + 1) σ (nI i) = _
    rw [FM_realm_50, if_neg (show ¬ (8 : Int32) ≤ nI i from nI_ge (b := 8) (by omega) (by decide)), show (5 + 9 * nI i : Int32) = nI (5 + 9 * i) from by rw [show (9 : Int32) = nI 9 from rfl, pk_mul, show (5 : Int32) = nI 5 from rfl, nI_add], gd_nI (N := 147) (by omega) (by decide), nI_clamp (by omega)]
    simp only [nm]
    rw [nI_1]
    exact a1
theorem DR_0 {σG : MS} {g : Nat → Int32} (h1 : σG.1 4 = 0 ∧ σG.1 5 = 0 ∧ σG.1 6 = 0 ∧ σG.1 7 = 0) (h2 : ∀ j, j < 61 → σG.2 3 j = 0) (h3 : ∀ a b, a < 8 → b < 8 → σG.2 0 (8 * a + b) = if a = b then 0 else 1000000) (h4 : ∀ j, j < 147 → (5 ≤ j ∧ j < 69) → g j = if (j - 5) % 9 = 0 then 0 else 10000) (h5 : ∀ j, j < 147 → ¬ (5 ≤ j ∧ j < 69) → g j = 0) : DR 0 0 0 σG g := by
  have g0 := h5 0 (by decide) (by decide)
  refine ⟨⟨h1.1, h1.2.1.trans g0.symm, by rw [g0]; decide, by rw [g0]; decide⟩, ⟨h5 1 (by decide) (by decide), by decide⟩, ⟨h1.2.2.1, h5 2 (by decide) (by decide), by decide⟩, ⟨h1.2.2.2, h5 3 (by decide) (by decide), by decide⟩, ⟨h5 4 (by decide) (by decide), h2 60 (by decide)⟩, ⟨fun a b => if a = b then 0 else 1000000, fun a b ha hb => ?_, fun a b ha hb => ?_⟩, fun i hi => absurd hi (Nat.not_lt_zero i), fun j hj => absurd hj (Nat.not_lt_zero j), fun j hj f q1 q2 => ⟨h2 _ (by omega), h5 _ (by omega) (by omega)⟩⟩
  · dsimp only
    by_cases z : a = b
    · rw [if_pos z, if_pos z.symm]
      exact ⟨Or.inr (by omega), rfl, fun _ => rfl, fun q => absurd z q⟩
    · rw [if_neg z, if_neg (fun q => z q.symm)]
      exact ⟨Or.inl rfl, rfl, fun q => absurd q z, fun _ => by omega⟩
  · rw [h3 a b ha hb, h4 _ (by omega) (by omega)]
    dsimp only
    by_cases z : a = b
    · rw [if_pos z, if_pos z, if_pos (by omega)]
      exact ⟨rfl, rfl⟩
    · rw [if_neg z, if_neg z, if_neg (by omega)]
      exact ⟨rfl, rfl⟩
