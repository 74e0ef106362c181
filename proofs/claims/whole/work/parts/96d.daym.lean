/-! PURE: a day, the reference's side -/
section DAYM
variable {σ : MS} {g : Nat → Int32} {c q t : Nat} {K A H L D S w v : Int32}
theorem MO0 (hc : c < 12) (eK : g (75 + 6 * c) = K) : FM_of (setR σ 5 (put4 g (76 + 6 * c) A H L D)) (nI c) 0 = some K := (p_of (setR σ 5 (put4 g (76 + 6 * c) A H L D)) (c := c) (f := 0) (by omega)).trans (congrArg some ((p4_out g (76 + 6 * c) A H L D (i := 75 + 6 * c + 0) (by omega)).trans eK))
theorem MO2 (hc : c < 12) : FM_of (setR σ 5 (put4 g (76 + 6 * c) A H L D)) (nI c) 2 = some A := (p_of (setR σ 5 (put4 g (76 + 6 * c) A H L D)) (c := c) (f := 2) (by omega)).trans (congrArg some (by rw [show 75 + 6 * c + 2 = 76 + 6 * c + 1 from by omega]; exact p4_1 g (76 + 6 * c) A H L D))
theorem MO3 (hc : c < 12) : FM_of (setR σ 5 (put4 g (76 + 6 * c) A H L D)) (nI c) 3 = some H := (p_of (setR σ 5 (put4 g (76 + 6 * c) A H L D)) (c := c) (f := 3) (by omega)).trans (congrArg some (by rw [show 75 + 6 * c + 3 = 76 + 6 * c + 2 from by omega]; exact p4_2 g (76 + 6 * c) A H L D))
theorem MO4 (hc : c < 12) : FM_of (setR σ 5 (put4 g (76 + 6 * c) A H L D)) (nI c) 4 = some L := (p_of (setR σ 5 (put4 g (76 + 6 * c) A H L D)) (c := c) (f := 4) (by omega)).trans (congrArg some (by rw [show 75 + 6 * c + 4 = 76 + 6 * c + 3 from by omega]; exact p4_3 g (76 + 6 * c) A H L D))
theorem MO5 (hc : c < 12) : FM_of (setR σ 5 (put4 g (76 + 6 * c) A H L D)) (nI c) 5 = some D := (p_of (setR σ 5 (put4 g (76 + 6 * c) A H L D)) (c := c) (f := 5) (by omega)).trans (congrArg some (by rw [show 75 + 6 * c + 5 = 76 + 6 * c + 4 from by omega]; exact p4_4 g (76 + 6 * c) A H L D))
theorem MP2 (hc : c < 12) : FM_becomes (setR σ 5 (put4 g (76 + 6 * c) A H L D)) (nI c) 2 v = some (setR σ 5 (put4 g (76 + 6 * c) v H L D)) := by
  rw [show FM_becomes (setR σ 5 (put4 g (76 + 6 * c) A H L D)) (nI c) 2 v = _ from p_bec _ (c := c) (f := 2) (by omega) v, setA_setR, show 75 + 6 * c + 2 = 76 + 6 * c + 1 from by omega, p4_u1]
theorem MP3 (hc : c < 12) : FM_becomes (setR σ 5 (put4 g (76 + 6 * c) A H L D)) (nI c) 3 v = some (setR σ 5 (put4 g (76 + 6 * c) A v L D)) := by
  rw [show FM_becomes (setR σ 5 (put4 g (76 + 6 * c) A H L D)) (nI c) 3 v = _ from p_bec _ (c := c) (f := 3) (by omega) v, setA_setR, show 75 + 6 * c + 3 = 76 + 6 * c + 2 from by omega, p4_u2]
theorem MP4 (hc : c < 12) : FM_becomes (setR σ 5 (put4 g (76 + 6 * c) A H L D)) (nI c) 4 v = some (setR σ 5 (put4 g (76 + 6 * c) A H v D)) := by
  rw [show FM_becomes (setR σ 5 (put4 g (76 + 6 * c) A H L D)) (nI c) 4 v = _ from p_bec _ (c := c) (f := 4) (by omega) v, setA_setR, show 75 + 6 * c + 4 = 76 + 6 * c + 3 from by omega, p4_u3]
theorem MP5 (hc : c < 12) : FM_becomes (setR σ 5 (put4 g (76 + 6 * c) A H L D)) (nI c) 5 v = some (setR σ 5 (put4 g (76 + 6 * c) A H L v)) := by
  rw [show FM_becomes (setR σ 5 (put4 g (76 + 6 * c) A H L D)) (nI c) 5 v = _ from p_bec _ (c := c) (f := 5) (by omega) v, setA_setR, show 75 + 6 * c + 5 = 76 + 6 * c + 4 from by omega, p4_u4]
theorem MTo (hc : c < 12) (hq : q < 6) (ey : g (76 + 6 * c) = nI q) (et : g (69 + q) = nI t) : FM_townOf (setR σ 5 (put4 g (76 + 6 * c) A H L D)) (nI c) = some (nI t) :=
  p_mtownOf _ hc hq (show put4 g (76 + 6 * c) A H L D (76 + 6 * c) = nI q from (p4_out _ _ _ _ _ _ (by omega)).trans ey) (show put4 g (76 + 6 * c) A H L D (69 + q) = nI t from (p4_out _ _ _ _ _ _ (by omega)).trans et)
theorem MFa (hc : c < 12) (ht : t < 8) (ew : g (5 + 8 * t) = w) : FM_farOf (setR σ 5 (put4 g (76 + 6 * c) A H L D)) (nI t) 0 = some w :=
  (p_farOf (setR σ 5 (put4 g (76 + 6 * c) A H L D)) (a := t) (b := 0) ht (by decide)).trans (congrArg some ((p4_out g (76 + 6 * c) A H L D (i := 5 + 8 * t + 0) (by omega)).trans ew))
theorem MSp (hc : c < 12) (eS : spanV (g (75 + 6 * c)) (g 0) = S) : FM_spanOf (setR σ 5 (put4 g (76 + 6 * c) A H L D)) (nI c) = some S := by
  rw [p_mspan _ hc]
  show some (spanV (put4 g (76 + 6 * c) A H L D (75 + 6 * c)) (put4 g (76 + 6 * c) A H L D 0)) = _
  rw [p4_out _ _ _ _ _ _ (by omega), p4_out _ _ _ _ _ _ (by omega), eS]
theorem M_goes (hc : c < 12) (hq : q < 6) (ht : t < 8) (ey : g (76 + 6 * c) = nI q) (et : g (69 + q) = nI t) (ew : (H = 1 ∨ H = 2) → g (5 + 8 * t) = w) (eK : g (75 + 6 * c) = K) (hD : D = 0 ∨ D = 1) (hH : OKH K H L D w) : FM_goesOn (setR σ 5 (put4 g (76 + 6 * c) A H L D)) (nI c) = some (setR σ 5 (put4 g (76 + 6 * c) (gA K A H L D) (gH K H L D) (gL K H L D w) D)) := by
  have T := fun A H L D => MTo (σ := σ) (g := g) (c := c) (A := A) (H := H) (L := L) (D := D) hc hq ey et
  have F := fun A H L D => MO0 (σ := σ) (g := g) (c := c) (A := A) (H := H) (L := L) (D := D) hc eK
  have E33 : ∀ A, FM_goesOn_33 (setR σ 5 (put4 g (76 + 6 * c) A H L D)) (nI c) = some (setR σ 5 (put4 g (76 + 6 * c) (if H = 1 ∧ L = 1 ∧ ¬ D = 1 ∧ ¬ K = 5 then 0 else A) (gH K H L D) (gL K H L D w) D)) := by
    intro A
    unfold FM_goesOn_33 FM_goesOn_53 FM_arrives FM_arrives_40 gH gL
    rcases hH with rfl | ⟨hH, hL, hw⟩ | rfl
    · simp [MO3 hc, i_01, i_02]
    · have I := fun A H L D => MFa (σ := σ) (g := g) (c := c) (A := A) (H := H) (L := L) (D := D) hc ht (ew hH)
      by_cases hL1 : L = 1
      · subst hL1
        rcases hD with rfl | rfl <;> rcases hH with rfl | rfl <;> by_cases hK : K = 5 <;>
          simp [MO2 hc, MO3 hc, MO4 hc, MO5 hc, MP2 hc, MP3 hc, MP4 hc, MP5 hc, F, T, I, i_s11, i_01, i_12, i_21, hK]
      · obtain ⟨n1, n2⟩ := i_L hL hL1
        rcases hH with rfl | rfl <;>
          simp [MO2 hc, MO3 hc, MO4 hc, MO5 hc, MP2 hc, MP3 hc, MP4 hc, MP5 hc, n2, hL1, i_21]
    · simp [MO3 hc, i_31, i_32]
  have eA : (if H = 1 ∧ L = 1 ∧ ¬ D = 1 ∧ ¬ K = 5 then 0 else (if D = 0 then (if H = 3 then A else A + 1) else A)) = gA K A H L D := by
    unfold gA
    rcases hH with rfl | ⟨rfl | rfl, hL, hw⟩ | rfl
    · simp [i_01, i_03]
    · by_cases z1 : L = 1
      · by_cases z2 : K = 5
        · rcases hD with rfl | rfl <;> simp [z1, z2, i_13, i_01]
        · rcases hD with rfl | rfl <;> simp [z1, z2, i_13, i_01]
      · simp [z1, i_13]
    · simp [i_21, i_23]
    · simp [i_31]
  rw [← eA, ← E33]
  unfold FM_goesOn
  rw [MO5 hc, Option.bind_some]
  rcases hD with rfl | rfl
  · rw [if_pos rfl, MO3 hc, Option.bind_some, if_pos rfl]
    by_cases h3 : H = 3
    · rw [if_pos h3, if_pos h3]
    · rw [if_neg h3, if_neg h3, MO2 hc, Option.bind_some, MP2 hc, Option.bind_some]
  · rw [if_neg one_ne_zero32, if_neg one_ne_zero32]
theorem M_fall (hc : c < 12) (eK : g (75 + 6 * c) = K) (eS : spanV (g (75 + 6 * c)) (g 0) = S) (hD : D = 0 ∨ D = 1) {N : Nat} (e3 : g 3 = nI N) (hN : c < N) (hN2 : N ≤ 12) (ag : MS → Int32 → Int32 → Int32 → Option (Int32 × MS)) (n : Nat) (l1 l2 l3 : Int32) : FM_days_99 ag (n + 1) (setR σ 5 (put4 g (76 + 6 * c) A H L D)) l1 l2 l3 (nI c) = FM_days_99 ag n (setR σ 5 (put4 g (76 + 6 * c) A H L (gD K A D S))) l1 (l2 ||| gB K A D S c) l3 (nI (c + 1)) := by
  have F := MO0 (σ := σ) (g := g) (c := c) (A := A) (H := H) (L := L) (D := D) hc eK
  have Sp := MSp (σ := σ) (g := g) (c := c) (A := A) (H := H) (L := L) (D := D) hc eS
  have hge : ¬ nI N ≤ nI c := nI_ge hN (by omega)
  conv => lhs; unfold FM_days_99 FM_days_162
  rw [gd_t (by decide), show Int32.toNatClampNeg 3 = 3 from by decide, show (setR σ 5 (put4 g (76 + 6 * c) A H L D)).2 5 3 = nI N from (p4_out g (76 + 6 * c) A H L D (i := 3) (by omega)).trans e3, if_neg hge]
  unfold gD gB
  rcases hD with rfl | rfl
  · by_cases hK : K = 5
    · simp [MO5 hc, F, hK, nm, nI_succ]
    · by_cases hA : A ≤ S
      · simp [MO5 hc, MO2 hc, F, Sp, hK, hA, nm, nI_succ]
      · simp [MO5 hc, MO2 hc, MP5 hc, F, Sp, hK, hA, nm, nI_succ]
  · simp [MO5 hc, nm, nI_succ]
end DAYM
/-- the day's values -/
def wW (σL : MS) (z : Nat → Int32) (j : Nat) : Int32 := σL.2 0 (8 * (σL.2 1 (z (5 * j)).toNatClampNeg).toNatClampNeg)
def a1 (σL : MS) (z : Nat → Int32) (j : Nat) : Int32 := gA (σL.2 2 j) (z (5 * j + 1)) (z (5 * j + 2)) (z (5 * j + 3)) (z (5 * j + 4))
def v1 (σL : MS) (z : Nat → Int32) (j : Nat) : Int32 × Int32 × Int32 × Int32 := (a1 σL z j, gH (σL.2 2 j) (z (5 * j + 2)) (z (5 * j + 3)) (z (5 * j + 4)), gL (σL.2 2 j) (z (5 * j + 2)) (z (5 * j + 3)) (z (5 * j + 4)) (wW σL z j), z (5 * j + 4))
def v2 (σL : MS) (z : Nat → Int32) (j : Nat) : Int32 × Int32 × Int32 × Int32 := (a1 σL z j, gH (σL.2 2 j) (z (5 * j + 2)) (z (5 * j + 3)) (z (5 * j + 4)), gL (σL.2 2 j) (z (5 * j + 2)) (z (5 * j + 3)) (z (5 * j + 4)) (wW σL z j), gD (σL.2 2 j) (a1 σL z j) (z (5 * j + 4)) (spanV (σL.2 2 j) (σL.1 5)))
def fb (σL : MS) (z : Nat → Int32) : Nat → Int32
  | 0 => 0
  | c + 1 => fb σL z c ||| gB (σL.2 2 c) (a1 σL z c) (z (5 * c + 4)) (spanV (σL.2 2 c) (σL.1 5)) c
/-- what is known of each coin as the day begins -/
def CD (σL : MS) (z g : Nat → Int32) (N : Nat) : Prop := N ≤ 12 ∧ σL.1 7 = nI N ∧ g 3 = nI N ∧ ∀ j, j < N → ∃ q t : Nat, q < 6 ∧ t < 8 ∧ z (5 * j) = nI q ∧ σL.2 1 q = nI t ∧ σL.2 0 t = wW σL z j ∧ (z (5 * j + 4) = 0 ∨ z (5 * j + 4) = 1) ∧ OKH (σL.2 2 j) (z (5 * j + 2)) (z (5 * j + 3)) (z (5 * j + 4)) (wW σL z j) ∧
  g (75 + 6 * j) = σL.2 2 j ∧ g (76 + 6 * j) = nI q ∧ g (69 + q) = nI t ∧ ((z (5 * j + 2) = 1 ∨ z (5 * j + 2) = 2) → g (5 + 8 * t) = wW σL z j) ∧ g 0 = σL.1 5
theorem dayL_loop {σL : MS} {z g : Nat → Int32} {N : Nat} (h : CD σL z g N) (n : Nat) : ∀ (d c : Nat) (y : Nat → Int32), c + d = N → (∀ j, j < N → V4 y (5 * j) = if j < c then v2 σL z j else V4 z (5 * j)) → (∀ i, (∀ j, j < N → ¬ (5 * j + 1 ≤ i ∧ i ≤ 5 * j + 4)) → y i = z i) →
    ∃ y', FL_liveDay_15 (n + d + 1) (setR σL 3 y) (fb σL z c) (nI c) = some (fb σL z N, setR σL 3 y') ∧ (∀ j, j < N → V4 y' (5 * j) = v2 σL z j) ∧ (∀ i, (∀ j, j < N → ¬ (5 * j + 1 ≤ i ∧ i ≤ 5 * j + 4)) → y' i = z i) := by
  obtain ⟨hN, e7, -, hj⟩ := h
  intro d
  induction d with
  | zero =>
    intro c y hc hv hf
    obtain rfl : c = N := by omega
    refine ⟨y, ?_, fun j hj => by rw [hv j hj, if_pos hj], hf⟩
    conv => lhs; unfold FL_liveDay_15
    rw [show (setR σL 3 y).1 7 = nI c from e7, if_pos (nI_le (by omega) (by omega))]
  | succ d ih =>
    intro c y hc hv hf
    obtain ⟨q, t, hq, ht, ez, et, ew, hD, hH, -⟩ := hj c (by omega)
    have ec := hv c (by omega)
    rw [if_neg (by omega)] at ec
    have ey : y (5 * c) = nI q := (hf (5 * c) (fun j _ => by omega)).trans ez
    have st := dayL_step (σL := σL) (y := y) (c := c) (A := z (5 * c + 1)) (by omega) hq ht ey et ew rfl rfl hD hH (by rw [e7]; exact nI_ge (by omega) (by omega)) (n + d + 1) (fb σL z c)
    rw [p4_id y (5 * c) _ _ _ _ ec] at st
    rw [show n + (d + 1) + 1 = n + d + 1 + 1 from by omega, st]
    refine ih (c + 1) _ (by omega) (fun j hjN => ?_) (fun i hi => ?_)
    · by_cases hjc : j = c
      · subst hjc
        rw [p4_V, if_pos (by omega)]
        rfl
      · rw [p4_Vo _ _ _ _ _ _ (by omega), hv j hjN]
        by_cases hlt : j < c
        · rw [if_pos hlt, if_pos (by omega)]
        · rw [if_neg hlt, if_neg (by omega)]
    · rw [p4_out _ _ _ _ _ _ (hi c (by omega))]
      exact hf i hi
theorem goes_loop {σL σ : MS} {z g : Nat → Int32} {N : Nat} (h : CD σL z g N) (ag : MS → Int32 → Int32 → Int32 → Option (Int32 × MS)) (l1 l2 l3 : Int32) (n : Nat) : ∀ (d c : Nat) (y : Nat → Int32), c + d = N → (∀ j, j < N → V4 y (76 + 6 * j) = if j < c then v1 σL z j else V4 z (5 * j)) → (∀ i, (∀ j, j < N → ¬ (76 + 6 * j + 1 ≤ i ∧ i ≤ 76 + 6 * j + 4)) → y i = g i) →
    ∃ y', FM_days_73 ag (n + d + 1) (setR σ 5 y) l1 l2 l3 (nI c) = FM_days_99 ag fuelN (setR σ 5 y') l1 l2 l3 0 ∧ (∀ j, j < N → V4 y' (76 + 6 * j) = v1 σL z j) ∧ (∀ i, (∀ j, j < N → ¬ (76 + 6 * j + 1 ≤ i ∧ i ≤ 76 + 6 * j + 4)) → y' i = g i) := by
  obtain ⟨hN, -, e3, hj⟩ := h
  intro d
  induction d with
  | zero =>
    intro c y hc hv hf
    obtain rfl : c = N := by omega
    refine ⟨y, ?_, fun j hj => by rw [hv j hj, if_pos hj], hf⟩
    conv => lhs; unfold FM_days_73
    rw [gd_t (by decide), show Int32.toNatClampNeg 3 = 3 from by decide, show (setR σ 5 y).2 5 3 = nI c from (hf 3 (fun j _ => by omega)).trans e3, if_pos (nI_le (by omega) (by omega))]
  | succ d ih =>
    intro c y hc hv hf
    obtain ⟨q, t, hq, ht, -, -, -, hD, hH, gK, gq, gt, gw, -⟩ := hj c (by omega)
    have ec := hv c (by omega)
    rw [if_neg (by omega)] at ec
    have st := M_goes (σ := σ) (g := y) (c := c) (A := z (5 * c + 1)) (by omega) hq ht ((hf (76 + 6 * c) (fun j _ => by omega)).trans gq) ((hf (69 + q) (fun j _ => by omega)).trans gt) (fun x => (hf (5 + 8 * t) (fun j _ => by omega)).trans (gw x)) ((hf (75 + 6 * c) (fun j _ => by omega)).trans gK) hD hH
    rw [p4_id y (76 + 6 * c) _ _ _ _ ec] at st
    have M0 : FM_days_73 ag (n + (d + 1) + 1) (setR σ 5 y) l1 l2 l3 (nI c) = FM_days_73 ag (n + d + 1) (setR σ 5 (put4 y (76 + 6 * c) (gA (σL.2 2 c) (z (5 * c + 1)) (z (5 * c + 2)) (z (5 * c + 3)) (z (5 * c + 4))) (gH (σL.2 2 c) (z (5 * c + 2)) (z (5 * c + 3)) (z (5 * c + 4))) (gL (σL.2 2 c) (z (5 * c + 2)) (z (5 * c + 3)) (z (5 * c + 4)) (wW σL z c)) (z (5 * c + 4)))) l1 l2 l3 (nI (c + 1)) := by
      conv => lhs; unfold FM_days_73
      rw [gd_t (by decide), show Int32.toNatClampNeg 3 = 3 from by decide, show (setR σ 5 y).2 5 3 = nI N from (hf 3 (fun j _ => by omega)).trans e3, if_neg (nI_ge (by omega) (by omega)), st, nI_succ]
      rfl
    rw [M0]
    refine ih (c + 1) _ (by omega) (fun j hjN => ?_) (fun i hi => ?_)
    · by_cases hjc : j = c
      · subst hjc
        rw [p4_V, if_pos (by omega)]
        rfl
      · rw [p4_Vo _ _ _ _ _ _ (by omega), hv j hjN]
        by_cases hlt : j < c
        · rw [if_pos hlt, if_pos (by omega)]
        · rw [if_neg hlt, if_neg (by omega)]
    · rw [p4_out _ _ _ _ _ _ (hi c (by omega))]
      exact hf i hi
theorem fall_loop {σL σ : MS} {z g : Nat → Int32} {N : Nat} (h : CD σL z g N) (ag : MS → Int32 → Int32 → Int32 → Option (Int32 × MS)) (l1 l2 l3 : Int32) (n : Nat) : ∀ (d c : Nat) (y : Nat → Int32), c + d = N → (∀ j, j < N → V4 y (76 + 6 * j) = if j < c then v2 σL z j else v1 σL z j) → (∀ i, (∀ j, j < N → ¬ (76 + 6 * j + 1 ≤ i ∧ i ≤ 76 + 6 * j + 4)) → y i = g i) →
    ∃ y', FM_days_99 ag (n + d + 1) (setR σ 5 y) l1 (l2 ||| fb σL z c) l3 (nI c) = ag (setR σ 5 y') l1 (l2 ||| fb σL z N) (l3 + 1) ∧ (∀ j, j < N → V4 y' (76 + 6 * j) = v2 σL z j) ∧ (∀ i, (∀ j, j < N → ¬ (76 + 6 * j + 1 ≤ i ∧ i ≤ 76 + 6 * j + 4)) → y' i = g i) := by
  obtain ⟨hN, -, e3, hj⟩ := h
  intro d
  induction d with
  | zero =>
    intro c y hc hv hf
    obtain rfl : c = N := by omega
    refine ⟨y, ?_, fun j hj => by rw [hv j hj, if_pos hj], hf⟩
    conv => lhs; unfold FM_days_99
    rw [gd_t (by decide), show Int32.toNatClampNeg 3 = 3 from by decide, show (setR σ 5 y).2 5 3 = nI c from (hf 3 (fun j _ => by omega)).trans e3, if_pos (nI_le (by omega) (by omega))]
    rfl
  | succ d ih =>
    intro c y hc hv hf
    obtain ⟨q, t, hq, ht, -, -, -, hD, hH, gK, gq, gt, gw, g0⟩ := hj c (by omega)
    have ec := hv c (by omega)
    rw [if_neg (by omega)] at ec
    have yK := (hf (75 + 6 * c) (fun j _ => by omega)).trans gK
    have st := M_fall (σ := σ) (g := y) (c := c) (S := spanV (σL.2 2 c) (σL.1 5)) (A := a1 σL z c) (H := gH (σL.2 2 c) (z (5 * c + 2)) (z (5 * c + 3)) (z (5 * c + 4))) (L := gL (σL.2 2 c) (z (5 * c + 2)) (z (5 * c + 3)) (z (5 * c + 4)) (wW σL z c)) (by omega) yK (by rw [yK, (hf 0 (fun j _ => by omega)).trans g0]) hD (N := N) ((hf 3 (fun j _ => by omega)).trans e3) (by omega) hN ag (n + d + 1) l1 (l2 ||| fb σL z c) l3
    rw [p4_id y (76 + 6 * c) _ _ _ _ ec, Int32.or_assoc] at st
    rw [show n + (d + 1) + 1 = n + d + 1 + 1 from by omega, st]
    refine ih (c + 1) _ (by omega) (fun j hjN => ?_) (fun i hi => ?_)
    · by_cases hjc : j = c
      · subst hjc
        rw [p4_V, if_pos (by omega)]
        rfl
      · rw [p4_Vo _ _ _ _ _ _ (by omega), hv j hjN]
        by_cases hlt : j < c
        · rw [if_pos hlt, if_pos (by omega)]
        · rw [if_neg hlt, if_neg (by omega)]
    · rw [p4_out _ _ _ _ _ _ (hi c (by omega))]
      exact hf i hi
