/-! PURE: what belongs together, class and reference -/
def RWay (x y : Int32) : Prop := (x = 1000000 ∧ y = 10000) ∨ (x = y ∧ 0 ≤ x ∧ x < 1000)
/-- a coin: how it is, the days to go, dumb, its kind, its way home; k: so many calls have been -/
def RHow (k : Nat) (how left dumb kind way : Int32) : Prop :=
  (how = 0 ∧ left = 0) ∨ ((how = 1 ∨ how = 2) ∧ 1 ≤ left.toInt ∧ left.toInt ≤ 1000 + 9 * k ∧ way < 1000000) ∨ (how = 3 ∧ left = 0 ∧ (dumb = 1 ∨ kind = 5))
/-- a realm of the class against one of the reference (147 numbers) -/
def RReal (k : Nat) (told leave holders coins : Int32) (ways towns kinds ch g : Nat → Int32) : Prop :=
  (told = 0 ∨ told = 1) ∧ (leave = g 0 ∧ holders = g 2 ∧ coins = g 3 ∧ ch 60 = g 4) ∧ (0 ≤ leave ∧ leave ≤ 400 ∧ 0 ≤ holders ∧ holders ≤ 6 ∧ 0 ≤ coins ∧ coins ≤ 12 ∧ 0 ≤ g 4 ∧ g 4 ≤ 9999) ∧ (told = 0 → holders = 0 ∧ coins = 0) ∧
  (told = 1 → ∀ a b : Nat, a < 8 → b < 8 → RWay (ways (8 * a + b)) (g (5 + 8 * a + b)) ∧ ways (8 * a + b) = ways (8 * b + a) ∧ (a ≠ b → 1 ≤ ways (8 * a + b))) ∧
  (∀ i : Nat, i < 6 → nI i < holders → towns i = g (69 + i) ∧ 1 ≤ towns i ∧ towns i ≤ 7) ∧
  (∀ c : Nat, c < 12 → nI c < coins → (kinds c = g (75 + 6 * c) ∧ 1 ≤ kinds c ∧ kinds c ≤ 5) ∧ (∀ f : Nat, f < 5 → ch (5 * c + f) = g (76 + 6 * c + f)) ∧ (0 ≤ ch (5 * c) ∧ ch (5 * c) < holders) ∧ (0 ≤ ch (5 * c + 1) ∧ ch (5 * c + 1) ≤ 400 + g 4) ∧ (ch (5 * c + 4) = 0 ∨ ch (5 * c + 4) = 1) ∧
    RHow k (ch (5 * c + 2)) (ch (5 * c + 3)) (ch (5 * c + 4)) (kinds c) (ways (8 * (towns (ch (5 * c)).toNatClampNeg).toNatClampNeg)))
def RRows (ω : Nat → MS) (lane many item : Nat → Int32) : Prop :=
  ∀ r : Nat, r < 8 → (ω r).1 1 = lane r ∧ (lane r = -1 ∨ (0 ≤ lane r ∧ lane r ≤ 2 ∧ (ω r).1 2 = many r ∧ 0 ≤ many r ∧ many r ≤ 40 ∧ ∀ j : Nat, j < 40 → (ω r).2 0 j = item (40 * r + j)))
def RTape (σT : MS) (taped : Int32) (tape : Nat → Int32) : Prop :=
  σT.1 1 = taped ∧ 0 ≤ taped ∧ taped ≤ 500 ∧ ∀ j : Nat, j < 500 → nI j < taped → tape j = σT.2 0 j &&& 255 ∧ -128 ≤ σT.2 0 j ∧ σT.2 0 j ≤ 127
def RActs (k : Nat) (σL σK : MS) (acts : Int32) (was : Nat → Int32) : Prop :=
  ∃ n q : Nat, n ≤ 24 ∧ q < 24 ∧ σK.1 2 = nI n ∧ acts = nI n ∧ σK.1 1 = nI q ∧ (n = 0 ∨ σL.1 4 = 1) ∧ ∀ i : Nat, i < n → RReal k (σL.1 4) (σL.1 5) (σL.1 6) (σL.1 7) (σL.2 0) (σL.2 1) (σL.2 2) (σK.2 ((q + 24 - n + i) % 24)) (fun j => was (147 * i + j))
def RImg (k : Nat) (told : Int32) (ι : Nat → MS) (isK kept : Nat → Int32) : Prop :=
  ∀ i : Nat, i < 2 → (ι i).1 4 = isK i ∧ (isK i = 0 ∨ (isK i = 1 ∧ told = 1 ∧ RReal k ((ι i).1 4) ((ι i).1 5) ((ι i).1 6) ((ι i).1 7) ((ι i).2 0) ((ι i).2 1) ((ι i).2 2) ((ι i).2 3) (fun j => kept (147 * i + j))))
def RTrace (σA : MS) (traced : Int32) (trace : Nat → Int32) : Prop :=
  σA.1 1 = traced ∧ 0 ≤ traced ∧ traced ≤ 16 ∧ ∀ j : Nat, j < 16 → nI j < traced → σA.2 0 j = trace j
def Rel (k : Nat) (σP σL _σG _σR σT _σC σA σK : MS) (ω ι : Nat → MS) (σ : MS) : Prop :=
  (σP.1 9 = σ.1 1 ∧ σP.1 10 = σ.1 12) ∧ RRows ω (σ.2 2) (σ.2 3) (σ.2 4) ∧ RTape σT (σ.1 11) (σ.2 10) ∧ (σL.1 4 = σ.1 7 ∧ RReal k (σL.1 4) (σL.1 5) (σL.1 6) (σL.1 7) (σL.2 0) (σL.2 1) (σL.2 2) (σL.2 3) (σ.2 5)) ∧ RActs k σL σK (σ.1 9) (σ.2 8) ∧ RImg k (σL.1 4) ι (σ.2 22) (σ.2 23) ∧ RTrace σA (σ.1 25) (σ.2 24)
theorem RHow.mono {k : Nat} {a b c d e : Int32} (h : RHow k a b c d e) : RHow (k + 1) a b c d e := by
  rcases h with h | ⟨h1, h2, h3, h4⟩ | h
  · exact Or.inl h
  · exact Or.inr (Or.inl ⟨h1, h2, by omega, h4⟩)
  · exact Or.inr (Or.inr h)
theorem RReal.mono {k : Nat} {a b c d : Int32} {w x y z g : Nat → Int32} (h : RReal k a b c d w x y z g) : RReal (k + 1) a b c d w x y z g := by
  obtain ⟨h1, h2, h3, h4, h5, h6, h7⟩ := h
  refine ⟨h1, h2, h3, h4, h5, h6, fun c hc hn => ?_⟩
  obtain ⟨g1, g2, g3, g4, g5, g6⟩ := h7 c hc hn
  exact ⟨g1, g2, g3, g4, g5, g6.mono⟩
theorem RActs.mono {k : Nat} {σL σK : MS} {a : Int32} {w : Nat → Int32} (h : RActs k σL σK a w) : RActs (k + 1) σL σK a w := by
  obtain ⟨n, q, h1, h2, h3, h4, h5, h6, h7⟩ := h
  exact ⟨n, q, h1, h2, h3, h4, h5, h6, fun i hi => (h7 i hi).mono⟩
theorem RImg.mono {k : Nat} {t : Int32} {ι : Nat → MS} {a b : Nat → Int32} (h : RImg k t ι a b) : RImg (k + 1) t ι a b := by
  intro i hi
  obtain ⟨h1, h2⟩ := h i hi
  exact ⟨h1, h2.imp id (fun h => ⟨h.1, h.2.1, h.2.2.mono⟩)⟩
theorem Rel.mono : ∀ (k : Nat) (σP σL σG σR σT σC σA σK : MS) (ω ι : Nat → MS) (σ : MS), Rel k σP σL σG σR σT σC σA σK ω ι σ → Rel (k + 1) σP σL σG σR σT σC σA σK ω ι σ := by
  intro k σP σL σG σR σT σC σA σK ω ι σ h
  obtain ⟨h1, h2, h3, ⟨h4, h5⟩, h6, h7, h8⟩ := h
  exact ⟨h1, h2, h3, ⟨h4, h5.mono⟩, h6.mono, h7.mono, h8⟩
theorem Rel_0 : Rel 0 s0 s0 s0 s0 s0 s0C s0 s0 (fun _ => s0W) (fun _ => s0) s0M := by
  have hr : RReal 0 0 0 0 0 (fun _ => 0) (fun _ => 0) (fun _ => 0) (fun _ => 0) (fun _ => 0) := by
    refine ⟨Or.inl rfl, ⟨rfl, rfl, rfl, rfl⟩, by decide, fun _ => ⟨rfl, rfl⟩, fun h => absurd h (by decide), fun i hi h => ?_, fun c hc h => ?_⟩
    · exact absurd h (nI_pos (by omega))
    · exact absurd h (nI_pos (by omega))
  refine ⟨⟨rfl, rfl⟩, fun r hr => ?_, ⟨rfl, by decide, by decide, fun j hj h => ?_⟩, ⟨rfl, hr⟩, ⟨0, 0, by decide, by decide, rfl, rfl, rfl, Or.inl rfl, fun i hi => absurd hi (Nat.not_lt_zero i)⟩, fun i hi => ⟨rfl, Or.inl rfl⟩, ⟨rfl, by decide, by decide, fun j hj h => ?_⟩⟩
  · rcases (show r = 0 ∨ r = 1 ∨ r = 2 ∨ r = 3 ∨ r = 4 ∨ r = 5 ∨ r = 6 ∨ r = 7 by omega) with rfl | rfl | rfl | rfl | rfl | rfl | rfl | rfl <;> exact ⟨rfl, Or.inl rfl⟩
  · exact absurd h (nI_pos (by omega))
  · exact absurd h (nI_pos (by omega))
